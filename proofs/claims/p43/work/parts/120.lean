set_option maxRecDepth 20000 in
theorem gX9_guess_X9_pieceX : GoodIn wuX9_guess (va_wsS RX9 122 yX9_pieceX wuX9_pieceX) := gu_S mw_1918 mw_949 mw_171 mw_950
set_option maxRecDepth 20000 in
set_option maxRecDepth 20000 in
theorem gX9_guess_X9_pieceY : GoodIn wuX9_guess (va_wsS RX9 126 yX9_pieceY wuX9_pieceY) := gu_S mw_1919 mw_952 mw_171 mw_953
set_option maxRecDepth 20000 in
set_option maxRecDepth 20000 in
theorem gX9_guess_X9_pieceAt : GoodIn wuX9_guess (wsV RX9 111 RX9 yX9_pieceAt wuX9_pieceAt) := gu_V mw_1906 mw_1907 mw_1908 mw_171 mw_1909
set_option maxRecDepth 20000 in
set_option maxRecDepth 20000 in
theorem gX9_guess_X9_referenceAt : GoodIn wuX9_guess (wsV RX9 164 RX9 yX9_referenceAt wuX9_referenceAt) := gu_V mw_1910 mw_1912 mw_59 mw_171 mw_1913
set_option maxRecDepth 20000 in
set_option maxRecDepth 20000 in
theorem gX9_guess_X9_adoptMedian : GoodIn wuX9_guess (wsV RX9 170 RX9 yX9_adoptMedian wuX9_adoptMedian) := gu_V mw_1924 mw_1926 mw_61 mw_171 mw_1927
set_option maxRecDepth 20000 in
theorem gX9_guess_X9_adopt : GoodIn wuX9_guess (wsV RX9 167 RX9 yX9_adopt wuX9_adopt) := gu_V mw_1920 mw_1922 mw_60 mw_171 mw_1923
set_option maxRecDepth 20000 in
theorem dX9_guess_0 : decode cX9_guess 0 = .ok (.iload 4, 2) := by decide +kernel
theorem dX9_guess_2 : decode cX9_guess 2 = .ok (.invokestatic 122, 3) := by decide +kernel
theorem dX9_guess_5 : decode cX9_guess 5 = .ok (.istore 7, 2) := by decide +kernel
theorem dX9_guess_7 : decode cX9_guess 7 = .ok (.iload 4, 2) := by decide +kernel
theorem dX9_guess_9 : decode cX9_guess 9 = .ok (.invokestatic 126, 3) := by decide +kernel
theorem dX9_guess_12 : decode cX9_guess 12 = .ok (.istore 8, 2) := by decide +kernel
theorem dX9_guess_14 : decode cX9_guess 14 = .ok (.aload_n 0, 1) := by decide +kernel
theorem dX9_guess_15 : decode cX9_guess 15 = .ok (.iload_n 1, 1) := by decide +kernel
theorem dX9_guess_16 : decode cX9_guess 16 = .ok (.iload 7, 2) := by decide +kernel
theorem dX9_guess_18 : decode cX9_guess 18 = .ok (.iconst 1, 1) := by decide +kernel
theorem dX9_guess_19 : decode cX9_guess 19 = .ok (.isub, 1) := by decide +kernel
theorem dX9_guess_20 : decode cX9_guess 20 = .ok (.iload 8, 2) := by decide +kernel
theorem dX9_guess_22 : decode cX9_guess 22 = .ok (.iload 4, 2) := by decide +kernel
theorem dX9_guess_24 : decode cX9_guess 24 = .ok (.invokevirtual 111, 3) := by decide +kernel
theorem dX9_guess_27 : decode cX9_guess 27 = .ok (.istore 9, 2) := by decide +kernel
theorem dX9_guess_29 : decode cX9_guess 29 = .ok (.aload_n 0, 1) := by decide +kernel
theorem dX9_guess_30 : decode cX9_guess 30 = .ok (.iload_n 1, 1) := by decide +kernel
theorem dX9_guess_31 : decode cX9_guess 31 = .ok (.iload 7, 2) := by decide +kernel
theorem dX9_guess_33 : decode cX9_guess 33 = .ok (.iload 8, 2) := by decide +kernel
theorem dX9_guess_35 : decode cX9_guess 35 = .ok (.iconst 1, 1) := by decide +kernel
theorem dX9_guess_36 : decode cX9_guess 36 = .ok (.isub, 1) := by decide +kernel
theorem dX9_guess_37 : decode cX9_guess 37 = .ok (.iload 4, 2) := by decide +kernel
theorem dX9_guess_39 : decode cX9_guess 39 = .ok (.invokevirtual 111, 3) := by decide +kernel
theorem dX9_guess_42 : decode cX9_guess 42 = .ok (.istore 10, 2) := by decide +kernel
theorem dX9_guess_44 : decode cX9_guess 44 = .ok (.aload_n 0, 1) := by decide +kernel
theorem dX9_guess_45 : decode cX9_guess 45 = .ok (.iload_n 1, 1) := by decide +kernel
theorem dX9_guess_46 : decode cX9_guess 46 = .ok (.iload 7, 2) := by decide +kernel
theorem dX9_guess_48 : decode cX9_guess 48 = .ok (.iload 5, 2) := by decide +kernel
theorem dX9_guess_50 : decode cX9_guess 50 = .ok (.iadd, 1) := by decide +kernel
theorem dX9_guess_51 : decode cX9_guess 51 = .ok (.iload 8, 2) := by decide +kernel
theorem dX9_guess_53 : decode cX9_guess 53 = .ok (.iconst 1, 1) := by decide +kernel
theorem dX9_guess_54 : decode cX9_guess 54 = .ok (.isub, 1) := by decide +kernel
theorem dX9_guess_55 : decode cX9_guess 55 = .ok (.iload 4, 2) := by decide +kernel
theorem dX9_guess_57 : decode cX9_guess 57 = .ok (.invokevirtual 111, 3) := by decide +kernel
theorem dX9_guess_60 : decode cX9_guess 60 = .ok (.istore 11, 2) := by decide +kernel
theorem dX9_guess_62 : decode cX9_guess 62 = .ok (.iload 11, 2) := by decide +kernel
theorem dX9_guess_64 : decode cX9_guess 64 = .ok (.ifCond .ge 21, 3) := by decide +kernel
theorem dX9_guess_67 : decode cX9_guess 67 = .ok (.aload_n 0, 1) := by decide +kernel
theorem dX9_guess_68 : decode cX9_guess 68 = .ok (.iload_n 1, 1) := by decide +kernel
theorem dX9_guess_69 : decode cX9_guess 69 = .ok (.iload 7, 2) := by decide +kernel
theorem dX9_guess_71 : decode cX9_guess 71 = .ok (.iconst 1, 1) := by decide +kernel
theorem dX9_guess_72 : decode cX9_guess 72 = .ok (.isub, 1) := by decide +kernel
theorem dX9_guess_73 : decode cX9_guess 73 = .ok (.iload 8, 2) := by decide +kernel
theorem dX9_guess_75 : decode cX9_guess 75 = .ok (.iconst 1, 1) := by decide +kernel
theorem dX9_guess_76 : decode cX9_guess 76 = .ok (.isub, 1) := by decide +kernel
theorem dX9_guess_77 : decode cX9_guess 77 = .ok (.iload 4, 2) := by decide +kernel
theorem dX9_guess_79 : decode cX9_guess 79 = .ok (.invokevirtual 111, 3) := by decide +kernel
theorem dX9_guess_82 : decode cX9_guess 82 = .ok (.goto 5, 3) := by decide +kernel
theorem dX9_guess_85 : decode cX9_guess 85 = .ok (.iload 11, 2) := by decide +kernel
theorem dX9_guess_87 : decode cX9_guess 87 = .ok (.istore 11, 2) := by decide +kernel
theorem dX9_guess_89 : decode cX9_guess 89 = .ok (.aload_n 0, 1) := by decide +kernel
theorem dX9_guess_90 : decode cX9_guess 90 = .ok (.iload_n 2, 1) := by decide +kernel
theorem dX9_guess_91 : decode cX9_guess 91 = .ok (.iload 9, 2) := by decide +kernel
theorem dX9_guess_93 : decode cX9_guess 93 = .ok (.invokevirtual 164, 3) := by decide +kernel
theorem dX9_guess_96 : decode cX9_guess 96 = .ok (.iload_n 3, 1) := by decide +kernel
theorem dX9_guess_97 : decode cX9_guess 97 = .ok (.if_icmp .ne 7, 3) := by decide +kernel
theorem dX9_guess_100 : decode cX9_guess 100 = .ok (.iconst 1, 1) := by decide +kernel
theorem dX9_guess_101 : decode cX9_guess 101 = .ok (.goto 4, 3) := by decide +kernel
theorem dX9_guess_104 : decode cX9_guess 104 = .ok (.iconst 0, 1) := by decide +kernel
theorem dX9_guess_105 : decode cX9_guess 105 = .ok (.istore 12, 2) := by decide +kernel
theorem dX9_guess_107 : decode cX9_guess 107 = .ok (.aload_n 0, 1) := by decide +kernel
theorem dX9_guess_108 : decode cX9_guess 108 = .ok (.iload_n 2, 1) := by decide +kernel
theorem dX9_guess_109 : decode cX9_guess 109 = .ok (.iload 10, 2) := by decide +kernel
theorem dX9_guess_111 : decode cX9_guess 111 = .ok (.invokevirtual 164, 3) := by decide +kernel
theorem dX9_guess_114 : decode cX9_guess 114 = .ok (.iload_n 3, 1) := by decide +kernel
theorem dX9_guess_115 : decode cX9_guess 115 = .ok (.if_icmp .ne 7, 3) := by decide +kernel
theorem dX9_guess_118 : decode cX9_guess 118 = .ok (.iconst 1, 1) := by decide +kernel
theorem dX9_guess_119 : decode cX9_guess 119 = .ok (.goto 4, 3) := by decide +kernel
theorem dX9_guess_122 : decode cX9_guess 122 = .ok (.iconst 0, 1) := by decide +kernel
theorem dX9_guess_123 : decode cX9_guess 123 = .ok (.istore 13, 2) := by decide +kernel
theorem dX9_guess_125 : decode cX9_guess 125 = .ok (.aload_n 0, 1) := by decide +kernel
theorem dX9_guess_126 : decode cX9_guess 126 = .ok (.iload_n 2, 1) := by decide +kernel
theorem dX9_guess_127 : decode cX9_guess 127 = .ok (.iload 11, 2) := by decide +kernel
theorem dX9_guess_129 : decode cX9_guess 129 = .ok (.invokevirtual 164, 3) := by decide +kernel
theorem dX9_guess_132 : decode cX9_guess 132 = .ok (.iload_n 3, 1) := by decide +kernel
theorem dX9_guess_133 : decode cX9_guess 133 = .ok (.if_icmp .ne 7, 3) := by decide +kernel
theorem dX9_guess_136 : decode cX9_guess 136 = .ok (.iconst 1, 1) := by decide +kernel
theorem dX9_guess_137 : decode cX9_guess 137 = .ok (.goto 4, 3) := by decide +kernel
theorem dX9_guess_140 : decode cX9_guess 140 = .ok (.iconst 0, 1) := by decide +kernel
theorem dX9_guess_141 : decode cX9_guess 141 = .ok (.istore 14, 2) := by decide +kernel
theorem dX9_guess_143 : decode cX9_guess 143 = .ok (.iload 12, 2) := by decide +kernel
theorem dX9_guess_145 : decode cX9_guess 145 = .ok (.ifCond .eq 7, 3) := by decide +kernel
theorem dX9_guess_148 : decode cX9_guess 148 = .ok (.iconst 1, 1) := by decide +kernel
theorem dX9_guess_149 : decode cX9_guess 149 = .ok (.goto 4, 3) := by decide +kernel
theorem dX9_guess_152 : decode cX9_guess 152 = .ok (.iconst 0, 1) := by decide +kernel
theorem dX9_guess_153 : decode cX9_guess 153 = .ok (.iload 13, 2) := by decide +kernel
theorem dX9_guess_155 : decode cX9_guess 155 = .ok (.ifCond .eq 7, 3) := by decide +kernel
theorem dX9_guess_158 : decode cX9_guess 158 = .ok (.iconst 1, 1) := by decide +kernel
theorem dX9_guess_159 : decode cX9_guess 159 = .ok (.goto 4, 3) := by decide +kernel
theorem dX9_guess_162 : decode cX9_guess 162 = .ok (.iconst 0, 1) := by decide +kernel
theorem dX9_guess_163 : decode cX9_guess 163 = .ok (.iadd, 1) := by decide +kernel
theorem dX9_guess_164 : decode cX9_guess 164 = .ok (.iload 14, 2) := by decide +kernel
theorem dX9_guess_166 : decode cX9_guess 166 = .ok (.ifCond .eq 7, 3) := by decide +kernel
theorem dX9_guess_169 : decode cX9_guess 169 = .ok (.iconst 1, 1) := by decide +kernel
theorem dX9_guess_170 : decode cX9_guess 170 = .ok (.goto 4, 3) := by decide +kernel
theorem dX9_guess_173 : decode cX9_guess 173 = .ok (.iconst 0, 1) := by decide +kernel
theorem dX9_guess_174 : decode cX9_guess 174 = .ok (.iadd, 1) := by decide +kernel
theorem dX9_guess_175 : decode cX9_guess 175 = .ok (.istore 15, 2) := by decide +kernel
theorem dX9_guess_177 : decode cX9_guess 177 = .ok (.iload 6, 2) := by decide +kernel
theorem dX9_guess_179 : decode cX9_guess 179 = .ok (.iconst 1, 1) := by decide +kernel
theorem dX9_guess_180 : decode cX9_guess 180 = .ok (.if_icmp .ne 18, 3) := by decide +kernel
theorem dX9_guess_183 : decode cX9_guess 183 = .ok (.iload 13, 2) := by decide +kernel
theorem dX9_guess_185 : decode cX9_guess 185 = .ok (.ifCond .eq 13, 3) := by decide +kernel
theorem dX9_guess_188 : decode cX9_guess 188 = .ok (.aload_n 0, 1) := by decide +kernel
theorem dX9_guess_189 : decode cX9_guess 189 = .ok (.iload_n 2, 1) := by decide +kernel
theorem dX9_guess_190 : decode cX9_guess 190 = .ok (.iload 10, 2) := by decide +kernel
theorem dX9_guess_192 : decode cX9_guess 192 = .ok (.invokevirtual 167, 3) := by decide +kernel
theorem dX9_guess_195 : decode cX9_guess 195 = .ok (.goto 123, 3) := by decide +kernel
theorem dX9_guess_198 : decode cX9_guess 198 = .ok (.iload 6, 2) := by decide +kernel
theorem dX9_guess_200 : decode cX9_guess 200 = .ok (.iconst 2, 1) := by decide +kernel
theorem dX9_guess_201 : decode cX9_guess 201 = .ok (.if_icmp .eq 9, 3) := by decide +kernel
theorem dX9_guess_204 : decode cX9_guess 204 = .ok (.iload 6, 2) := by decide +kernel
theorem dX9_guess_206 : decode cX9_guess 206 = .ok (.iconst 3, 1) := by decide +kernel
theorem dX9_guess_207 : decode cX9_guess 207 = .ok (.if_icmp .ne 18, 3) := by decide +kernel
theorem dX9_guess_210 : decode cX9_guess 210 = .ok (.iload 12, 2) := by decide +kernel
theorem dX9_guess_212 : decode cX9_guess 212 = .ok (.ifCond .eq 13, 3) := by decide +kernel
theorem dX9_guess_215 : decode cX9_guess 215 = .ok (.aload_n 0, 1) := by decide +kernel
theorem dX9_guess_216 : decode cX9_guess 216 = .ok (.iload_n 2, 1) := by decide +kernel
theorem dX9_guess_217 : decode cX9_guess 217 = .ok (.iload 9, 2) := by decide +kernel
theorem dX9_guess_219 : decode cX9_guess 219 = .ok (.invokevirtual 167, 3) := by decide +kernel
theorem dX9_guess_222 : decode cX9_guess 222 = .ok (.goto 96, 3) := by decide +kernel
theorem dX9_guess_225 : decode cX9_guess 225 = .ok (.iload 6, 2) := by decide +kernel
theorem dX9_guess_227 : decode cX9_guess 227 = .ok (.iconst 4, 1) := by decide +kernel
theorem dX9_guess_228 : decode cX9_guess 228 = .ok (.if_icmp .ne 18, 3) := by decide +kernel
theorem dX9_guess_231 : decode cX9_guess 231 = .ok (.iload 14, 2) := by decide +kernel
theorem dX9_guess_233 : decode cX9_guess 233 = .ok (.ifCond .eq 13, 3) := by decide +kernel
theorem dX9_guess_236 : decode cX9_guess 236 = .ok (.aload_n 0, 1) := by decide +kernel
theorem dX9_guess_237 : decode cX9_guess 237 = .ok (.iload_n 2, 1) := by decide +kernel
theorem dX9_guess_238 : decode cX9_guess 238 = .ok (.iload 11, 2) := by decide +kernel
theorem dX9_guess_240 : decode cX9_guess 240 = .ok (.invokevirtual 167, 3) := by decide +kernel
theorem dX9_guess_243 : decode cX9_guess 243 = .ok (.goto 75, 3) := by decide +kernel
theorem dX9_guess_246 : decode cX9_guess 246 = .ok (.iload 10, 2) := by decide +kernel
theorem dX9_guess_248 : decode cX9_guess 248 = .ok (.ifCond .ge 23, 3) := by decide +kernel
theorem dX9_guess_251 : decode cX9_guess 251 = .ok (.iload 11, 2) := by decide +kernel
theorem dX9_guess_253 : decode cX9_guess 253 = .ok (.ifCond .ge 18, 3) := by decide +kernel
theorem dX9_guess_256 : decode cX9_guess 256 = .ok (.iload 9, 2) := by decide +kernel
theorem dX9_guess_258 : decode cX9_guess 258 = .ok (.ifCond .lt 13, 3) := by decide +kernel
theorem dX9_guess_261 : decode cX9_guess 261 = .ok (.aload_n 0, 1) := by decide +kernel
theorem dX9_guess_262 : decode cX9_guess 262 = .ok (.iload_n 2, 1) := by decide +kernel
theorem dX9_guess_263 : decode cX9_guess 263 = .ok (.iload 9, 2) := by decide +kernel
theorem dX9_guess_265 : decode cX9_guess 265 = .ok (.invokevirtual 167, 3) := by decide +kernel
theorem dX9_guess_268 : decode cX9_guess 268 = .ok (.goto 50, 3) := by decide +kernel
theorem dX9_guess_271 : decode cX9_guess 271 = .ok (.iload 15, 2) := by decide +kernel
theorem dX9_guess_273 : decode cX9_guess 273 = .ok (.iconst 1, 1) := by decide +kernel
theorem dX9_guess_274 : decode cX9_guess 274 = .ok (.if_icmp .ne 33, 3) := by decide +kernel
theorem dX9_guess_277 : decode cX9_guess 277 = .ok (.aload_n 0, 1) := by decide +kernel
theorem dX9_guess_278 : decode cX9_guess 278 = .ok (.iload_n 2, 1) := by decide +kernel
theorem dX9_guess_279 : decode cX9_guess 279 = .ok (.iload 12, 2) := by decide +kernel
theorem dX9_guess_281 : decode cX9_guess 281 = .ok (.ifCond .eq 8, 3) := by decide +kernel
theorem dX9_guess_284 : decode cX9_guess 284 = .ok (.iload 9, 2) := by decide +kernel
theorem dX9_guess_286 : decode cX9_guess 286 = .ok (.goto 15, 3) := by decide +kernel
theorem dX9_guess_289 : decode cX9_guess 289 = .ok (.iload 13, 2) := by decide +kernel
theorem dX9_guess_291 : decode cX9_guess 291 = .ok (.ifCond .eq 8, 3) := by decide +kernel
theorem dX9_guess_294 : decode cX9_guess 294 = .ok (.iload 10, 2) := by decide +kernel
theorem dX9_guess_296 : decode cX9_guess 296 = .ok (.goto 5, 3) := by decide +kernel
theorem dX9_guess_299 : decode cX9_guess 299 = .ok (.iload 11, 2) := by decide +kernel
theorem dX9_guess_301 : decode cX9_guess 301 = .ok (.invokevirtual 167, 3) := by decide +kernel
theorem dX9_guess_304 : decode cX9_guess 304 = .ok (.goto 14, 3) := by decide +kernel
theorem dX9_guess_307 : decode cX9_guess 307 = .ok (.aload_n 0, 1) := by decide +kernel
theorem dX9_guess_308 : decode cX9_guess 308 = .ok (.iload_n 2, 1) := by decide +kernel
theorem dX9_guess_309 : decode cX9_guess 309 = .ok (.iload 9, 2) := by decide +kernel
theorem dX9_guess_311 : decode cX9_guess 311 = .ok (.iload 10, 2) := by decide +kernel
theorem dX9_guess_313 : decode cX9_guess 313 = .ok (.iload 11, 2) := by decide +kernel
theorem dX9_guess_315 : decode cX9_guess 315 = .ok (.invokevirtual 170, 3) := by decide +kernel
theorem dX9_guess_318 : decode cX9_guess 318 = .ok (.return_, 1) := by decide +kernel
def FX9_guess (G : GG) (M : DD) (a : Nat) (p0 : Int32) (p1 : Int32) (p2 : Int32) (p3 : Int32) (p4 : Int32) (p5 : Int32) : Option (DD) :=
  bnd (FX9_pieceX G M p3) fun y1 =>
  bnd (FX9_pieceY G y1.1 p3) fun y2 =>
  ltt ((y1.2 - ((1 : Int32)))) fun x3 =>
  bnd (FX9_pieceAt G y2.1 a p0 x3 y2.2 p3) fun y4 =>
  ltt ((y2.2 - ((1 : Int32)))) fun x5 =>
  bnd (FX9_pieceAt G y4.1 a p0 y1.2 x5 p3) fun y6 =>
  ltt ((y1.2 + p4)) fun x7 =>
  ltt ((y2.2 - ((1 : Int32)))) fun x8 =>
  bnd (FX9_pieceAt G y6.1 a p0 x7 x8 p3) fun y9 =>
  bnd (if ((0 : Int32)) ≤ y9.2 then (some (y9.2, y9.1)) else
  (ltt ((y1.2 - ((1 : Int32)))) fun x456 =>
  ltt ((y2.2 - ((1 : Int32)))) fun x457 =>
  bnd (FX9_pieceAt G y9.1 a p0 x456 x457 p3) fun y458 =>
  some (y458.2, y458.1))) fun (y10 : Int32 × DD) =>
  bnd (FX9_referenceAt G y10.2 a p1 y4.2) fun y11 =>
  bnd (if y11.2 = p2 then (some ((1 : Int32))) else
  (some ((0 : Int32)))) fun (y12 : Int32) =>
  bnd (FX9_referenceAt G y11.1 a p1 y6.2) fun y13 =>
  bnd (if y13.2 = p2 then (some ((1 : Int32))) else
  (some ((0 : Int32)))) fun (y14 : Int32) =>
  bnd (FX9_referenceAt G y13.1 a p1 y10.1) fun y15 =>
  bnd (if y15.2 = p2 then (some ((1 : Int32))) else
  (some ((0 : Int32)))) fun (y16 : Int32) =>
  bnd (if y12 = ((0 : Int32)) then (some ((0 : Int32))) else
  (some ((1 : Int32)))) fun (y17 : Int32) =>
  bnd (if y14 = ((0 : Int32)) then (some ((0 : Int32))) else
  (some ((1 : Int32)))) fun (y18 : Int32) =>
  ltt ((y17 + y18)) fun x19 =>
  bnd (if y16 = ((0 : Int32)) then (some ((0 : Int32))) else
  (some ((1 : Int32)))) fun (y20 : Int32) =>
  ltt ((x19 + y20)) fun x21 =>
  bnd (if p5 = ((1 : Int32)) then (bnd (if y14 = ((0 : Int32)) then (bnd (if p5 = ((2 : Int32)) then (bnd (if y12 = ((0 : Int32)) then (bnd (if p5 = ((4 : Int32)) then (bnd (if y16 = ((0 : Int32)) then (bnd (if ((0 : Int32)) ≤ y6.2 then (bnd (if x21 = ((1 : Int32)) then (bnd (if y12 = ((0 : Int32)) then (bnd (if y14 = ((0 : Int32)) then (some (y10.1)) else
  (some (y6.2))) fun (y284 : Int32) =>
  some (y284)) else
  (some (y4.2))) fun (y281 : Int32) =>
  bnd (FX9_adopt G y15.1 a p1 y281) fun y282 =>
  some (y282)) else
  (bnd (FX9_adoptMedian G y15.1 a p1 y4.2 y6.2 y10.1) fun y280 =>
  some (y280))) fun (y278 : DD) =>
  some (y278)) else
  (bnd (if ((0 : Int32)) ≤ y10.1 then (bnd (if x21 = ((1 : Int32)) then (bnd (if y12 = ((0 : Int32)) then (bnd (if y14 = ((0 : Int32)) then (some (y10.1)) else
  (some (y6.2))) fun (y294 : Int32) =>
  some (y294)) else
  (some (y4.2))) fun (y291 : Int32) =>
  bnd (FX9_adopt G y15.1 a p1 y291) fun y292 =>
  some (y292)) else
  (bnd (FX9_adoptMedian G y15.1 a p1 y4.2 y6.2 y10.1) fun y290 =>
  some (y290))) fun (y288 : DD) =>
  some (y288)) else
  (bnd (if y4.2 < ((0 : Int32)) then (bnd (if x21 = ((1 : Int32)) then (bnd (if y12 = ((0 : Int32)) then (bnd (if y14 = ((0 : Int32)) then (some (y10.1)) else
  (some (y6.2))) fun (y304 : Int32) =>
  some (y304)) else
  (some (y4.2))) fun (y301 : Int32) =>
  bnd (FX9_adopt G y15.1 a p1 y301) fun y302 =>
  some (y302)) else
  (bnd (FX9_adoptMedian G y15.1 a p1 y4.2 y6.2 y10.1) fun y300 =>
  some (y300))) fun (y298 : DD) =>
  some (y298)) else
  (bnd (FX9_adopt G y15.1 a p1 y4.2) fun y306 =>
  some (y306))) fun (y296 : DD) =>
  some (y296))) fun (y286 : DD) =>
  some (y286))) fun (y276 : DD) =>
  some (y276)) else
  (bnd (FX9_adopt G y15.1 a p1 y10.1) fun y307 =>
  some (y307))) fun (y274 : DD) =>
  some (y274)) else
  (bnd (if ((0 : Int32)) ≤ y6.2 then (bnd (if x21 = ((1 : Int32)) then (bnd (if y12 = ((0 : Int32)) then (bnd (if y14 = ((0 : Int32)) then (some (y10.1)) else
  (some (y6.2))) fun (y251 : Int32) =>
  some (y251)) else
  (some (y4.2))) fun (y248 : Int32) =>
  bnd (FX9_adopt G y15.1 a p1 y248) fun y249 =>
  some (y249)) else
  (bnd (FX9_adoptMedian G y15.1 a p1 y4.2 y6.2 y10.1) fun y247 =>
  some (y247))) fun (y245 : DD) =>
  some (y245)) else
  (bnd (if ((0 : Int32)) ≤ y10.1 then (bnd (if x21 = ((1 : Int32)) then (bnd (if y12 = ((0 : Int32)) then (bnd (if y14 = ((0 : Int32)) then (some (y10.1)) else
  (some (y6.2))) fun (y261 : Int32) =>
  some (y261)) else
  (some (y4.2))) fun (y258 : Int32) =>
  bnd (FX9_adopt G y15.1 a p1 y258) fun y259 =>
  some (y259)) else
  (bnd (FX9_adoptMedian G y15.1 a p1 y4.2 y6.2 y10.1) fun y257 =>
  some (y257))) fun (y255 : DD) =>
  some (y255)) else
  (bnd (if y4.2 < ((0 : Int32)) then (bnd (if x21 = ((1 : Int32)) then (bnd (if y12 = ((0 : Int32)) then (bnd (if y14 = ((0 : Int32)) then (some (y10.1)) else
  (some (y6.2))) fun (y271 : Int32) =>
  some (y271)) else
  (some (y4.2))) fun (y268 : Int32) =>
  bnd (FX9_adopt G y15.1 a p1 y268) fun y269 =>
  some (y269)) else
  (bnd (FX9_adoptMedian G y15.1 a p1 y4.2 y6.2 y10.1) fun y267 =>
  some (y267))) fun (y265 : DD) =>
  some (y265)) else
  (bnd (FX9_adopt G y15.1 a p1 y4.2) fun y273 =>
  some (y273))) fun (y263 : DD) =>
  some (y263))) fun (y253 : DD) =>
  some (y253))) fun (y243 : DD) =>
  some (y243))) fun (y241 : DD) =>
  some (y241)) else
  (bnd (FX9_adopt G y15.1 a p1 y4.2) fun y308 =>
  some (y308))) fun (y239 : DD) =>
  some (y239)) else
  (bnd (if p5 = ((3 : Int32)) then (bnd (if y12 = ((0 : Int32)) then (bnd (if p5 = ((4 : Int32)) then (bnd (if y16 = ((0 : Int32)) then (bnd (if ((0 : Int32)) ≤ y6.2 then (bnd (if x21 = ((1 : Int32)) then (bnd (if y12 = ((0 : Int32)) then (bnd (if y14 = ((0 : Int32)) then (some (y10.1)) else
  (some (y6.2))) fun (y423 : Int32) =>
  some (y423)) else
  (some (y4.2))) fun (y420 : Int32) =>
  bnd (FX9_adopt G y15.1 a p1 y420) fun y421 =>
  some (y421)) else
  (bnd (FX9_adoptMedian G y15.1 a p1 y4.2 y6.2 y10.1) fun y419 =>
  some (y419))) fun (y417 : DD) =>
  some (y417)) else
  (bnd (if ((0 : Int32)) ≤ y10.1 then (bnd (if x21 = ((1 : Int32)) then (bnd (if y12 = ((0 : Int32)) then (bnd (if y14 = ((0 : Int32)) then (some (y10.1)) else
  (some (y6.2))) fun (y433 : Int32) =>
  some (y433)) else
  (some (y4.2))) fun (y430 : Int32) =>
  bnd (FX9_adopt G y15.1 a p1 y430) fun y431 =>
  some (y431)) else
  (bnd (FX9_adoptMedian G y15.1 a p1 y4.2 y6.2 y10.1) fun y429 =>
  some (y429))) fun (y427 : DD) =>
  some (y427)) else
  (bnd (if y4.2 < ((0 : Int32)) then (bnd (if x21 = ((1 : Int32)) then (bnd (if y12 = ((0 : Int32)) then (bnd (if y14 = ((0 : Int32)) then (some (y10.1)) else
  (some (y6.2))) fun (y443 : Int32) =>
  some (y443)) else
  (some (y4.2))) fun (y440 : Int32) =>
  bnd (FX9_adopt G y15.1 a p1 y440) fun y441 =>
  some (y441)) else
  (bnd (FX9_adoptMedian G y15.1 a p1 y4.2 y6.2 y10.1) fun y439 =>
  some (y439))) fun (y437 : DD) =>
  some (y437)) else
  (bnd (FX9_adopt G y15.1 a p1 y4.2) fun y445 =>
  some (y445))) fun (y435 : DD) =>
  some (y435))) fun (y425 : DD) =>
  some (y425))) fun (y415 : DD) =>
  some (y415)) else
  (bnd (FX9_adopt G y15.1 a p1 y10.1) fun y446 =>
  some (y446))) fun (y413 : DD) =>
  some (y413)) else
  (bnd (if ((0 : Int32)) ≤ y6.2 then (bnd (if x21 = ((1 : Int32)) then (bnd (if y12 = ((0 : Int32)) then (bnd (if y14 = ((0 : Int32)) then (some (y10.1)) else
  (some (y6.2))) fun (y390 : Int32) =>
  some (y390)) else
  (some (y4.2))) fun (y387 : Int32) =>
  bnd (FX9_adopt G y15.1 a p1 y387) fun y388 =>
  some (y388)) else
  (bnd (FX9_adoptMedian G y15.1 a p1 y4.2 y6.2 y10.1) fun y386 =>
  some (y386))) fun (y384 : DD) =>
  some (y384)) else
  (bnd (if ((0 : Int32)) ≤ y10.1 then (bnd (if x21 = ((1 : Int32)) then (bnd (if y12 = ((0 : Int32)) then (bnd (if y14 = ((0 : Int32)) then (some (y10.1)) else
  (some (y6.2))) fun (y400 : Int32) =>
  some (y400)) else
  (some (y4.2))) fun (y397 : Int32) =>
  bnd (FX9_adopt G y15.1 a p1 y397) fun y398 =>
  some (y398)) else
  (bnd (FX9_adoptMedian G y15.1 a p1 y4.2 y6.2 y10.1) fun y396 =>
  some (y396))) fun (y394 : DD) =>
  some (y394)) else
  (bnd (if y4.2 < ((0 : Int32)) then (bnd (if x21 = ((1 : Int32)) then (bnd (if y12 = ((0 : Int32)) then (bnd (if y14 = ((0 : Int32)) then (some (y10.1)) else
  (some (y6.2))) fun (y410 : Int32) =>
  some (y410)) else
  (some (y4.2))) fun (y407 : Int32) =>
  bnd (FX9_adopt G y15.1 a p1 y407) fun y408 =>
  some (y408)) else
  (bnd (FX9_adoptMedian G y15.1 a p1 y4.2 y6.2 y10.1) fun y406 =>
  some (y406))) fun (y404 : DD) =>
  some (y404)) else
  (bnd (FX9_adopt G y15.1 a p1 y4.2) fun y412 =>
  some (y412))) fun (y402 : DD) =>
  some (y402))) fun (y392 : DD) =>
  some (y392))) fun (y382 : DD) =>
  some (y382))) fun (y380 : DD) =>
  some (y380)) else
  (bnd (FX9_adopt G y15.1 a p1 y4.2) fun y447 =>
  some (y447))) fun (y378 : DD) =>
  some (y378)) else
  (bnd (if p5 = ((4 : Int32)) then (bnd (if y16 = ((0 : Int32)) then (bnd (if ((0 : Int32)) ≤ y6.2 then (bnd (if x21 = ((1 : Int32)) then (bnd (if y12 = ((0 : Int32)) then (bnd (if y14 = ((0 : Int32)) then (some (y10.1)) else
  (some (y6.2))) fun (y354 : Int32) =>
  some (y354)) else
  (some (y4.2))) fun (y351 : Int32) =>
  bnd (FX9_adopt G y15.1 a p1 y351) fun y352 =>
  some (y352)) else
  (bnd (FX9_adoptMedian G y15.1 a p1 y4.2 y6.2 y10.1) fun y350 =>
  some (y350))) fun (y348 : DD) =>
  some (y348)) else
  (bnd (if ((0 : Int32)) ≤ y10.1 then (bnd (if x21 = ((1 : Int32)) then (bnd (if y12 = ((0 : Int32)) then (bnd (if y14 = ((0 : Int32)) then (some (y10.1)) else
  (some (y6.2))) fun (y364 : Int32) =>
  some (y364)) else
  (some (y4.2))) fun (y361 : Int32) =>
  bnd (FX9_adopt G y15.1 a p1 y361) fun y362 =>
  some (y362)) else
  (bnd (FX9_adoptMedian G y15.1 a p1 y4.2 y6.2 y10.1) fun y360 =>
  some (y360))) fun (y358 : DD) =>
  some (y358)) else
  (bnd (if y4.2 < ((0 : Int32)) then (bnd (if x21 = ((1 : Int32)) then (bnd (if y12 = ((0 : Int32)) then (bnd (if y14 = ((0 : Int32)) then (some (y10.1)) else
  (some (y6.2))) fun (y374 : Int32) =>
  some (y374)) else
  (some (y4.2))) fun (y371 : Int32) =>
  bnd (FX9_adopt G y15.1 a p1 y371) fun y372 =>
  some (y372)) else
  (bnd (FX9_adoptMedian G y15.1 a p1 y4.2 y6.2 y10.1) fun y370 =>
  some (y370))) fun (y368 : DD) =>
  some (y368)) else
  (bnd (FX9_adopt G y15.1 a p1 y4.2) fun y376 =>
  some (y376))) fun (y366 : DD) =>
  some (y366))) fun (y356 : DD) =>
  some (y356))) fun (y346 : DD) =>
  some (y346)) else
  (bnd (FX9_adopt G y15.1 a p1 y10.1) fun y377 =>
  some (y377))) fun (y344 : DD) =>
  some (y344)) else
  (bnd (if ((0 : Int32)) ≤ y6.2 then (bnd (if x21 = ((1 : Int32)) then (bnd (if y12 = ((0 : Int32)) then (bnd (if y14 = ((0 : Int32)) then (some (y10.1)) else
  (some (y6.2))) fun (y321 : Int32) =>
  some (y321)) else
  (some (y4.2))) fun (y318 : Int32) =>
  bnd (FX9_adopt G y15.1 a p1 y318) fun y319 =>
  some (y319)) else
  (bnd (FX9_adoptMedian G y15.1 a p1 y4.2 y6.2 y10.1) fun y317 =>
  some (y317))) fun (y315 : DD) =>
  some (y315)) else
  (bnd (if ((0 : Int32)) ≤ y10.1 then (bnd (if x21 = ((1 : Int32)) then (bnd (if y12 = ((0 : Int32)) then (bnd (if y14 = ((0 : Int32)) then (some (y10.1)) else
  (some (y6.2))) fun (y331 : Int32) =>
  some (y331)) else
  (some (y4.2))) fun (y328 : Int32) =>
  bnd (FX9_adopt G y15.1 a p1 y328) fun y329 =>
  some (y329)) else
  (bnd (FX9_adoptMedian G y15.1 a p1 y4.2 y6.2 y10.1) fun y327 =>
  some (y327))) fun (y325 : DD) =>
  some (y325)) else
  (bnd (if y4.2 < ((0 : Int32)) then (bnd (if x21 = ((1 : Int32)) then (bnd (if y12 = ((0 : Int32)) then (bnd (if y14 = ((0 : Int32)) then (some (y10.1)) else
  (some (y6.2))) fun (y341 : Int32) =>
  some (y341)) else
  (some (y4.2))) fun (y338 : Int32) =>
  bnd (FX9_adopt G y15.1 a p1 y338) fun y339 =>
  some (y339)) else
  (bnd (FX9_adoptMedian G y15.1 a p1 y4.2 y6.2 y10.1) fun y337 =>
  some (y337))) fun (y335 : DD) =>
  some (y335)) else
  (bnd (FX9_adopt G y15.1 a p1 y4.2) fun y343 =>
  some (y343))) fun (y333 : DD) =>
  some (y333))) fun (y323 : DD) =>
  some (y323))) fun (y313 : DD) =>
  some (y313))) fun (y311 : DD) =>
  some (y311))) fun (y309 : DD) =>
  some (y309))) fun (y237 : DD) =>
  some (y237)) else
  (bnd (FX9_adopt G y15.1 a p1 y6.2) fun y448 =>
  some (y448))) fun (y235 : DD) =>
  some (y235)) else
  (bnd (if p5 = ((2 : Int32)) then (bnd (if y12 = ((0 : Int32)) then (bnd (if p5 = ((4 : Int32)) then (bnd (if y16 = ((0 : Int32)) then (bnd (if ((0 : Int32)) ≤ y6.2 then (bnd (if x21 = ((1 : Int32)) then (bnd (if y12 = ((0 : Int32)) then (bnd (if y14 = ((0 : Int32)) then (some (y10.1)) else
  (some (y6.2))) fun (y71 : Int32) =>
  some (y71)) else
  (some (y4.2))) fun (y68 : Int32) =>
  bnd (FX9_adopt G y15.1 a p1 y68) fun y69 =>
  some (y69)) else
  (bnd (FX9_adoptMedian G y15.1 a p1 y4.2 y6.2 y10.1) fun y67 =>
  some (y67))) fun (y65 : DD) =>
  some (y65)) else
  (bnd (if ((0 : Int32)) ≤ y10.1 then (bnd (if x21 = ((1 : Int32)) then (bnd (if y12 = ((0 : Int32)) then (bnd (if y14 = ((0 : Int32)) then (some (y10.1)) else
  (some (y6.2))) fun (y81 : Int32) =>
  some (y81)) else
  (some (y4.2))) fun (y78 : Int32) =>
  bnd (FX9_adopt G y15.1 a p1 y78) fun y79 =>
  some (y79)) else
  (bnd (FX9_adoptMedian G y15.1 a p1 y4.2 y6.2 y10.1) fun y77 =>
  some (y77))) fun (y75 : DD) =>
  some (y75)) else
  (bnd (if y4.2 < ((0 : Int32)) then (bnd (if x21 = ((1 : Int32)) then (bnd (if y12 = ((0 : Int32)) then (bnd (if y14 = ((0 : Int32)) then (some (y10.1)) else
  (some (y6.2))) fun (y91 : Int32) =>
  some (y91)) else
  (some (y4.2))) fun (y88 : Int32) =>
  bnd (FX9_adopt G y15.1 a p1 y88) fun y89 =>
  some (y89)) else
  (bnd (FX9_adoptMedian G y15.1 a p1 y4.2 y6.2 y10.1) fun y87 =>
  some (y87))) fun (y85 : DD) =>
  some (y85)) else
  (bnd (FX9_adopt G y15.1 a p1 y4.2) fun y93 =>
  some (y93))) fun (y83 : DD) =>
  some (y83))) fun (y73 : DD) =>
  some (y73))) fun (y63 : DD) =>
  some (y63)) else
  (bnd (FX9_adopt G y15.1 a p1 y10.1) fun y94 =>
  some (y94))) fun (y61 : DD) =>
  some (y61)) else
  (bnd (if ((0 : Int32)) ≤ y6.2 then (bnd (if x21 = ((1 : Int32)) then (bnd (if y12 = ((0 : Int32)) then (bnd (if y14 = ((0 : Int32)) then (some (y10.1)) else
  (some (y6.2))) fun (y38 : Int32) =>
  some (y38)) else
  (some (y4.2))) fun (y35 : Int32) =>
  bnd (FX9_adopt G y15.1 a p1 y35) fun y36 =>
  some (y36)) else
  (bnd (FX9_adoptMedian G y15.1 a p1 y4.2 y6.2 y10.1) fun y34 =>
  some (y34))) fun (y32 : DD) =>
  some (y32)) else
  (bnd (if ((0 : Int32)) ≤ y10.1 then (bnd (if x21 = ((1 : Int32)) then (bnd (if y12 = ((0 : Int32)) then (bnd (if y14 = ((0 : Int32)) then (some (y10.1)) else
  (some (y6.2))) fun (y48 : Int32) =>
  some (y48)) else
  (some (y4.2))) fun (y45 : Int32) =>
  bnd (FX9_adopt G y15.1 a p1 y45) fun y46 =>
  some (y46)) else
  (bnd (FX9_adoptMedian G y15.1 a p1 y4.2 y6.2 y10.1) fun y44 =>
  some (y44))) fun (y42 : DD) =>
  some (y42)) else
  (bnd (if y4.2 < ((0 : Int32)) then (bnd (if x21 = ((1 : Int32)) then (bnd (if y12 = ((0 : Int32)) then (bnd (if y14 = ((0 : Int32)) then (some (y10.1)) else
  (some (y6.2))) fun (y58 : Int32) =>
  some (y58)) else
  (some (y4.2))) fun (y55 : Int32) =>
  bnd (FX9_adopt G y15.1 a p1 y55) fun y56 =>
  some (y56)) else
  (bnd (FX9_adoptMedian G y15.1 a p1 y4.2 y6.2 y10.1) fun y54 =>
  some (y54))) fun (y52 : DD) =>
  some (y52)) else
  (bnd (FX9_adopt G y15.1 a p1 y4.2) fun y60 =>
  some (y60))) fun (y50 : DD) =>
  some (y50))) fun (y40 : DD) =>
  some (y40))) fun (y30 : DD) =>
  some (y30))) fun (y28 : DD) =>
  some (y28)) else
  (bnd (FX9_adopt G y15.1 a p1 y4.2) fun y95 =>
  some (y95))) fun (y26 : DD) =>
  some (y26)) else
  (bnd (if p5 = ((3 : Int32)) then (bnd (if y12 = ((0 : Int32)) then (bnd (if p5 = ((4 : Int32)) then (bnd (if y16 = ((0 : Int32)) then (bnd (if ((0 : Int32)) ≤ y6.2 then (bnd (if x21 = ((1 : Int32)) then (bnd (if y12 = ((0 : Int32)) then (bnd (if y14 = ((0 : Int32)) then (some (y10.1)) else
  (some (y6.2))) fun (y210 : Int32) =>
  some (y210)) else
  (some (y4.2))) fun (y207 : Int32) =>
  bnd (FX9_adopt G y15.1 a p1 y207) fun y208 =>
  some (y208)) else
  (bnd (FX9_adoptMedian G y15.1 a p1 y4.2 y6.2 y10.1) fun y206 =>
  some (y206))) fun (y204 : DD) =>
  some (y204)) else
  (bnd (if ((0 : Int32)) ≤ y10.1 then (bnd (if x21 = ((1 : Int32)) then (bnd (if y12 = ((0 : Int32)) then (bnd (if y14 = ((0 : Int32)) then (some (y10.1)) else
  (some (y6.2))) fun (y220 : Int32) =>
  some (y220)) else
  (some (y4.2))) fun (y217 : Int32) =>
  bnd (FX9_adopt G y15.1 a p1 y217) fun y218 =>
  some (y218)) else
  (bnd (FX9_adoptMedian G y15.1 a p1 y4.2 y6.2 y10.1) fun y216 =>
  some (y216))) fun (y214 : DD) =>
  some (y214)) else
  (bnd (if y4.2 < ((0 : Int32)) then (bnd (if x21 = ((1 : Int32)) then (bnd (if y12 = ((0 : Int32)) then (bnd (if y14 = ((0 : Int32)) then (some (y10.1)) else
  (some (y6.2))) fun (y230 : Int32) =>
  some (y230)) else
  (some (y4.2))) fun (y227 : Int32) =>
  bnd (FX9_adopt G y15.1 a p1 y227) fun y228 =>
  some (y228)) else
  (bnd (FX9_adoptMedian G y15.1 a p1 y4.2 y6.2 y10.1) fun y226 =>
  some (y226))) fun (y224 : DD) =>
  some (y224)) else
  (bnd (FX9_adopt G y15.1 a p1 y4.2) fun y232 =>
  some (y232))) fun (y222 : DD) =>
  some (y222))) fun (y212 : DD) =>
  some (y212))) fun (y202 : DD) =>
  some (y202)) else
  (bnd (FX9_adopt G y15.1 a p1 y10.1) fun y233 =>
  some (y233))) fun (y200 : DD) =>
  some (y200)) else
  (bnd (if ((0 : Int32)) ≤ y6.2 then (bnd (if x21 = ((1 : Int32)) then (bnd (if y12 = ((0 : Int32)) then (bnd (if y14 = ((0 : Int32)) then (some (y10.1)) else
  (some (y6.2))) fun (y177 : Int32) =>
  some (y177)) else
  (some (y4.2))) fun (y174 : Int32) =>
  bnd (FX9_adopt G y15.1 a p1 y174) fun y175 =>
  some (y175)) else
  (bnd (FX9_adoptMedian G y15.1 a p1 y4.2 y6.2 y10.1) fun y173 =>
  some (y173))) fun (y171 : DD) =>
  some (y171)) else
  (bnd (if ((0 : Int32)) ≤ y10.1 then (bnd (if x21 = ((1 : Int32)) then (bnd (if y12 = ((0 : Int32)) then (bnd (if y14 = ((0 : Int32)) then (some (y10.1)) else
  (some (y6.2))) fun (y187 : Int32) =>
  some (y187)) else
  (some (y4.2))) fun (y184 : Int32) =>
  bnd (FX9_adopt G y15.1 a p1 y184) fun y185 =>
  some (y185)) else
  (bnd (FX9_adoptMedian G y15.1 a p1 y4.2 y6.2 y10.1) fun y183 =>
  some (y183))) fun (y181 : DD) =>
  some (y181)) else
  (bnd (if y4.2 < ((0 : Int32)) then (bnd (if x21 = ((1 : Int32)) then (bnd (if y12 = ((0 : Int32)) then (bnd (if y14 = ((0 : Int32)) then (some (y10.1)) else
  (some (y6.2))) fun (y197 : Int32) =>
  some (y197)) else
  (some (y4.2))) fun (y194 : Int32) =>
  bnd (FX9_adopt G y15.1 a p1 y194) fun y195 =>
  some (y195)) else
  (bnd (FX9_adoptMedian G y15.1 a p1 y4.2 y6.2 y10.1) fun y193 =>
  some (y193))) fun (y191 : DD) =>
  some (y191)) else
  (bnd (FX9_adopt G y15.1 a p1 y4.2) fun y199 =>
  some (y199))) fun (y189 : DD) =>
  some (y189))) fun (y179 : DD) =>
  some (y179))) fun (y169 : DD) =>
  some (y169))) fun (y167 : DD) =>
  some (y167)) else
  (bnd (FX9_adopt G y15.1 a p1 y4.2) fun y234 =>
  some (y234))) fun (y165 : DD) =>
  some (y165)) else
  (bnd (if p5 = ((4 : Int32)) then (bnd (if y16 = ((0 : Int32)) then (bnd (if ((0 : Int32)) ≤ y6.2 then (bnd (if x21 = ((1 : Int32)) then (bnd (if y12 = ((0 : Int32)) then (bnd (if y14 = ((0 : Int32)) then (some (y10.1)) else
  (some (y6.2))) fun (y141 : Int32) =>
  some (y141)) else
  (some (y4.2))) fun (y138 : Int32) =>
  bnd (FX9_adopt G y15.1 a p1 y138) fun y139 =>
  some (y139)) else
  (bnd (FX9_adoptMedian G y15.1 a p1 y4.2 y6.2 y10.1) fun y137 =>
  some (y137))) fun (y135 : DD) =>
  some (y135)) else
  (bnd (if ((0 : Int32)) ≤ y10.1 then (bnd (if x21 = ((1 : Int32)) then (bnd (if y12 = ((0 : Int32)) then (bnd (if y14 = ((0 : Int32)) then (some (y10.1)) else
  (some (y6.2))) fun (y151 : Int32) =>
  some (y151)) else
  (some (y4.2))) fun (y148 : Int32) =>
  bnd (FX9_adopt G y15.1 a p1 y148) fun y149 =>
  some (y149)) else
  (bnd (FX9_adoptMedian G y15.1 a p1 y4.2 y6.2 y10.1) fun y147 =>
  some (y147))) fun (y145 : DD) =>
  some (y145)) else
  (bnd (if y4.2 < ((0 : Int32)) then (bnd (if x21 = ((1 : Int32)) then (bnd (if y12 = ((0 : Int32)) then (bnd (if y14 = ((0 : Int32)) then (some (y10.1)) else
  (some (y6.2))) fun (y161 : Int32) =>
  some (y161)) else
  (some (y4.2))) fun (y158 : Int32) =>
  bnd (FX9_adopt G y15.1 a p1 y158) fun y159 =>
  some (y159)) else
  (bnd (FX9_adoptMedian G y15.1 a p1 y4.2 y6.2 y10.1) fun y157 =>
  some (y157))) fun (y155 : DD) =>
  some (y155)) else
  (bnd (FX9_adopt G y15.1 a p1 y4.2) fun y163 =>
  some (y163))) fun (y153 : DD) =>
  some (y153))) fun (y143 : DD) =>
  some (y143))) fun (y133 : DD) =>
  some (y133)) else
  (bnd (FX9_adopt G y15.1 a p1 y10.1) fun y164 =>
  some (y164))) fun (y131 : DD) =>
  some (y131)) else
  (bnd (if ((0 : Int32)) ≤ y6.2 then (bnd (if x21 = ((1 : Int32)) then (bnd (if y12 = ((0 : Int32)) then (bnd (if y14 = ((0 : Int32)) then (some (y10.1)) else
  (some (y6.2))) fun (y108 : Int32) =>
  some (y108)) else
  (some (y4.2))) fun (y105 : Int32) =>
  bnd (FX9_adopt G y15.1 a p1 y105) fun y106 =>
  some (y106)) else
  (bnd (FX9_adoptMedian G y15.1 a p1 y4.2 y6.2 y10.1) fun y104 =>
  some (y104))) fun (y102 : DD) =>
  some (y102)) else
  (bnd (if ((0 : Int32)) ≤ y10.1 then (bnd (if x21 = ((1 : Int32)) then (bnd (if y12 = ((0 : Int32)) then (bnd (if y14 = ((0 : Int32)) then (some (y10.1)) else
  (some (y6.2))) fun (y118 : Int32) =>
  some (y118)) else
  (some (y4.2))) fun (y115 : Int32) =>
  bnd (FX9_adopt G y15.1 a p1 y115) fun y116 =>
  some (y116)) else
  (bnd (FX9_adoptMedian G y15.1 a p1 y4.2 y6.2 y10.1) fun y114 =>
  some (y114))) fun (y112 : DD) =>
  some (y112)) else
  (bnd (if y4.2 < ((0 : Int32)) then (bnd (if x21 = ((1 : Int32)) then (bnd (if y12 = ((0 : Int32)) then (bnd (if y14 = ((0 : Int32)) then (some (y10.1)) else
  (some (y6.2))) fun (y128 : Int32) =>
  some (y128)) else
  (some (y4.2))) fun (y125 : Int32) =>
  bnd (FX9_adopt G y15.1 a p1 y125) fun y126 =>
  some (y126)) else
  (bnd (FX9_adoptMedian G y15.1 a p1 y4.2 y6.2 y10.1) fun y124 =>
  some (y124))) fun (y122 : DD) =>
  some (y122)) else
  (bnd (FX9_adopt G y15.1 a p1 y4.2) fun y130 =>
  some (y130))) fun (y120 : DD) =>
  some (y120))) fun (y110 : DD) =>
  some (y110))) fun (y100 : DD) =>
  some (y100))) fun (y98 : DD) =>
  some (y98))) fun (y96 : DD) =>
  some (y96))) fun (y24 : DD) =>
  some (y24))) fun (y22 : DD) =>
  some y22
set_option maxHeartbeats 4000000 in
set_option maxRecDepth 100000 in
theorem kX9_guess (l : Launch) (D : va_G) (ct : CT) (ad : Nat → Nat) (Z : Nat → Nat) (G : GG) (M : DD) (sz : Nat) (a : Nat) (p0 : Int32) (p1 : Int32) (p2 : Int32) (p3 : Int32) (p4 : Int32) (p5 : Int32) (y : DD) (hc : a < G.1) (hk : G.2.1 a = 9) (hF : FX9_guess G M a p0 p1 p2 p3 p4 p5 = some y) : Met l yX9_guess wuX9_guess ({ frames := 1, cells := 0, slots := 0, locals := 34 }) (va_Pc [.ref (ad a), .int p0, .int p1, .int p2, .int p3, .int p4, .int p5] (kB D ct ad Z G M sz)) (va_Qv (fun (_ : Unit) => True) (fun _ t => kE D ct ad G (wA ad G sz) y t) (wA ad G sz)) 0 0 (wA ad G sz) := by
  refine Met.ofW (cc := cX9_guess) (maxL := 16) (ret := none) (by decide) rfl ?_
  intro p e s m args below meth c s₁ B hml hv
  obtain ⟨rfl, hsz, hP, hK, hD0, hZ, hN⟩ := hv
  have hx := B.exec
  have hb := B.bytes
  have hr := B.returns
  have hts := atoms_spec (ws := wuX9_guess) B.pre
  have hown : s.vm.findClass RX9 = some m.cls := findClass_of_methodNamed B.named
  have hlocks := B.notSynchronized
  subst hsz
  have hD := wD_self (sz := s.heap.size) hD0
  have hA9 : ∀ q, s.heap.size ≤ q → wA ad G s.heap.size q := fun q h => Or.inr h
  generalize hAe : wA ad G s.heap.size = A at hD hA9 hZ ⊢
  have hS : va_S A s.heap s.heap [] := va_S.rf
  have hl := lv_entry ([.ref (ad a), .int p0, .int p1, .int p2, .int p3, .int p4, .int p5]) (n := 16) (Nat.le_of_ble_eq_true rfl)
  rw [lg_entry_eq]
  generalize (lg_sl ([.ref (ad a), .int p0, .int p1, .int p2, .int p3, .int p4, .int p5]) ++ List.replicate (16 - (lg_sl ([.ref (ad a), .int p0, .int p1, .int p2, .int p3, .int p4, .int p5])).length) Slot.unset).toArray = ls at hl ⊢
  have hl : lv_has ls 16 [(0, .ref (ad a)), (1, .int p0), (2, .int p1), (3, .int p2), (4, .int p3), (5, .int p4), (6, .int p5)] := hl
  unfold FX9_guess at hF
  refine lv_iload hx hb dX9_guess_0 (lv_at hl 4 rfl) ?_
  obtain ⟨y1, hy1, hF⟩ := bnd_some hF
  have hf9 := wA_in hD hA9 hS
  refine va_calli (va_runS (As := [.int p3]) (rest := []) ⟨hx, hb, hml, hown, hts⟩ (kX9_pieceX l D ct ad Z G M s.heap.size p3 y1 hy1) (va_cwS 1 hts gX9_guess_X9_pieceX rfl rfl rfl (by decide +kernel) ⟨Nat.le_of_ble_eq_true rfl, Nat.le_of_ble_eq_true rfl⟩) ⟨fun a U g mk q => by obtain ⟨q0, q1, qP, qK, qD, qZ, qN⟩ := q; exact ⟨q0, q1, qP, va_K.moved (u := U) (U := U.calling g mk a) (Vm.Alike.refl U.vm) qK, qD, sF.moved (u := U) (U := U.calling g mk a) (Vm.Alike.refl U.vm) qZ, nF.same rfl qN⟩, fun U hU hW => ⟨rfl, by rw [hU], by rw [hU]; exact hP, va_K.moved hW.alike hK, hD.weaken (fun _ _ _ _ => trivial), by rw [hU]; exact ((hZ.kept hS.2.1).narrow hf9).moved hW.alike, hN.warm hW⟩⟩ rfl rfl hl.1 rfl (lv_room (Nat.le_of_ble_eq_true rfl)) dX9_guess_2 ⟨(Nat.zero_le _), (Nat.zero_le _)⟩) hS (fun q _ h => hf9 q h) hf9 (fun r u t H locs ht hvm hw hB hz1 hk1 hS => ?_)
  obtain ⟨hP, hK9, hD9⟩ := hB
  rw [ht] at hP
  try dsimp only at hw
  subst hw
  have hD := hD9.weaken (fun _ q _ h => hf9 q.1 h)
  refine lv_istore (lv' := [(7, .int y1.2), (0, .ref (ad a)), (1, .int p0), (2, .int p1), (3, .int p2), (4, .int p3), (5, .int p4), (6, .int p5)]) hx hb dX9_guess_5 hl (by decide) rfl (fun ls hl => ?_)
  refine lv_iload hx hb dX9_guess_7 (lv_at hl 5 rfl) ?_
  obtain ⟨y2, hy2, hF⟩ := bnd_some hF
  have hf9 := wA_in hD hA9 hS
  refine va_calli (va_runS (As := [.int p3]) (rest := []) ⟨hx, hb, hml, hown, hts⟩ (kX9_pieceY l D ct ad Z G y1.1 H.size p3 y2 hy2) (va_cwS 1 hts gX9_guess_X9_pieceY rfl rfl rfl (by decide +kernel) ⟨Nat.le_of_ble_eq_true rfl, Nat.le_of_ble_eq_true rfl⟩) ⟨fun a U g mk q => by obtain ⟨q0, q1, qP, qK, qD, qZ, qN⟩ := q; exact ⟨q0, q1, qP, va_K.moved (u := U) (U := U.calling g mk a) (Vm.Alike.refl U.vm) qK, qD, sF.moved (u := U) (U := U.calling g mk a) (Vm.Alike.refl U.vm) qZ, nF.same rfl qN⟩, fun U hU hW => ⟨rfl, by rw [hU], by rw [hU]; exact hP, va_K.moved hW.alike hK, hD.weaken (fun _ _ _ _ => trivial), by rw [hU]; exact ((hZ.kept hS.2.1).narrow hf9).moved hW.alike, hN.warm hW⟩⟩ rfl rfl hl.1 rfl (lv_room (Nat.le_of_ble_eq_true rfl)) dX9_guess_9 ⟨(Nat.zero_le _), (Nat.zero_le _)⟩) hS (fun q _ h => hf9 q h) hf9 (fun r u t H locs ht hvm hw hB hz1 hk1 hS => ?_)
  obtain ⟨hP, hK9, hD9⟩ := hB
  rw [ht] at hP
  try dsimp only at hw
  subst hw
  have hD := hD9.weaken (fun _ q _ h => hf9 q.1 h)
  refine lv_istore (lv' := [(8, .int y2.2), (7, .int y1.2), (0, .ref (ad a)), (1, .int p0), (2, .int p1), (3, .int p2), (4, .int p3), (5, .int p4), (6, .int p5)]) hx hb dX9_guess_12 hl (by decide) rfl (fun ls hl => ?_)
  refine lv_aload_n hx hb dX9_guess_14 rfl (lv_at hl 2 rfl) ?_
  refine lv_iload_n hx hb dX9_guess_15 rfl (lv_at hl 3 rfl) ?_
  refine lv_iload hx hb dX9_guess_16 (lv_at hl 1 rfl) ?_
  refine lv_iconst (v := (1 : Int32)) hx hb dX9_guess_18 (by decide) ?_
  refine lv_isub hx hb dX9_guess_19 ?_
  obtain ⟨x3, ex3, hF⟩ := ltt_some hF
  refine lv_topi (fun zx3 ezx3 => ?_)
  obtain rfl : x3 = zx3 := ex3.trans ezx3.symm
  refine lv_iload hx hb dX9_guess_20 (lv_at hl 0 rfl) ?_
  refine lv_iload hx hb dX9_guess_22 (lv_at hl 6 rfl) ?_
  obtain ⟨y4, hy4, hF⟩ := bnd_some hF
  have hf9 := wA_in hD hA9 hS
  refine va_calli (va_runV (As := [.int p0, .int x3, .int y2.2, .int p3]) (rest := []) ⟨hx, hb, hml, hown, hts⟩ (kX9_pieceAt l D ct ad Z G y2.1 H.size a p0 x3 y2.2 p3 y4 hc hk hy4) (cwV 4 hts gX9_guess_X9_pieceAt rfl rfl rfl (by decide +kernel) ⟨Nat.le_of_ble_eq_true rfl, Nat.le_of_ble_eq_true rfl⟩) ⟨fun a U g mk q => by obtain ⟨q0, q1, qP, qK, qD, qZ, qN⟩ := q; exact ⟨q0, q1, qP, va_K.moved (u := U) (U := U.calling g mk a) (Vm.Alike.refl U.vm) qK, qD, sF.moved (u := U) (U := U.calling g mk a) (Vm.Alike.refl U.vm) qZ, nF.same rfl qN⟩, va_recv hK hP (ci := 9) (q0 := a) rfl (wld_o ct ad G y2.1 hc hk (by decide)), fun U hU hW => ⟨rfl, by rw [hU], by rw [hU]; exact hP, va_K.moved hW.alike hK, hD.weaken (fun _ _ _ _ => trivial), by rw [hU]; exact ((hZ.kept hS.2.1).narrow hf9).moved hW.alike, hN.warm hW⟩⟩ rfl rfl hl.1 rfl (lv_room (Nat.le_of_ble_eq_true rfl)) dX9_guess_24 ⟨(Nat.zero_le _), (Nat.zero_le _)⟩) hS (fun q _ h => hf9 q h) hf9 (fun r u t H locs ht hvm hw hB hz1 hk1 hS => ?_)
  obtain ⟨hP, hK9, hD9⟩ := hB
  rw [ht] at hP
  try dsimp only at hw
  subst hw
  have hD := hD9.weaken (fun _ q _ h => hf9 q.1 h)
  refine lv_istore (lv' := [(9, .int y4.2), (8, .int y2.2), (7, .int y1.2), (0, .ref (ad a)), (1, .int p0), (2, .int p1), (3, .int p2), (4, .int p3), (5, .int p4), (6, .int p5)]) hx hb dX9_guess_27 hl (by decide) rfl (fun ls hl => ?_)
  refine lv_aload_n hx hb dX9_guess_29 rfl (lv_at hl 3 rfl) ?_
  refine lv_iload_n hx hb dX9_guess_30 rfl (lv_at hl 4 rfl) ?_
  refine lv_iload hx hb dX9_guess_31 (lv_at hl 2 rfl) ?_
  refine lv_iload hx hb dX9_guess_33 (lv_at hl 1 rfl) ?_
  refine lv_iconst (v := (1 : Int32)) hx hb dX9_guess_35 (by decide) ?_
  refine lv_isub hx hb dX9_guess_36 ?_
  obtain ⟨x5, ex5, hF⟩ := ltt_some hF
  refine lv_topi (fun zx5 ezx5 => ?_)
  obtain rfl : x5 = zx5 := ex5.trans ezx5.symm
  refine lv_iload hx hb dX9_guess_37 (lv_at hl 7 rfl) ?_
  obtain ⟨y6, hy6, hF⟩ := bnd_some hF
  have hf9 := wA_in hD hA9 hS
  refine va_calli (va_runV (As := [.int p0, .int y1.2, .int x5, .int p3]) (rest := []) ⟨hx, hb, hml, hown, hts⟩ (kX9_pieceAt l D ct ad Z G y4.1 H.size a p0 y1.2 x5 p3 y6 hc hk hy6) (cwV 4 hts gX9_guess_X9_pieceAt rfl rfl rfl (by decide +kernel) ⟨Nat.le_of_ble_eq_true rfl, Nat.le_of_ble_eq_true rfl⟩) ⟨fun a U g mk q => by obtain ⟨q0, q1, qP, qK, qD, qZ, qN⟩ := q; exact ⟨q0, q1, qP, va_K.moved (u := U) (U := U.calling g mk a) (Vm.Alike.refl U.vm) qK, qD, sF.moved (u := U) (U := U.calling g mk a) (Vm.Alike.refl U.vm) qZ, nF.same rfl qN⟩, va_recv hK hP (ci := 9) (q0 := a) rfl (wld_o ct ad G y4.1 hc hk (by decide)), fun U hU hW => ⟨rfl, by rw [hU], by rw [hU]; exact hP, va_K.moved hW.alike hK, hD.weaken (fun _ _ _ _ => trivial), by rw [hU]; exact ((hZ.kept hS.2.1).narrow hf9).moved hW.alike, hN.warm hW⟩⟩ rfl rfl hl.1 rfl (lv_room (Nat.le_of_ble_eq_true rfl)) dX9_guess_39 ⟨(Nat.zero_le _), (Nat.zero_le _)⟩) hS (fun q _ h => hf9 q h) hf9 (fun r u t H locs ht hvm hw hB hz1 hk1 hS => ?_)
  obtain ⟨hP, hK9, hD9⟩ := hB
  rw [ht] at hP
  try dsimp only at hw
  subst hw
  have hD := hD9.weaken (fun _ q _ h => hf9 q.1 h)
  refine lv_istore (lv' := [(10, .int y6.2), (9, .int y4.2), (8, .int y2.2), (7, .int y1.2), (0, .ref (ad a)), (1, .int p0), (2, .int p1), (3, .int p2), (4, .int p3), (5, .int p4), (6, .int p5)]) hx hb dX9_guess_42 hl (by decide) rfl (fun ls hl => ?_)
  refine lv_aload_n hx hb dX9_guess_44 rfl (lv_at hl 4 rfl) ?_
  refine lv_iload_n hx hb dX9_guess_45 rfl (lv_at hl 5 rfl) ?_
  refine lv_iload hx hb dX9_guess_46 (lv_at hl 3 rfl) ?_
  refine lv_iload hx hb dX9_guess_48 (lv_at hl 9 rfl) ?_
  refine lv_iadd hx hb dX9_guess_50 ?_
  obtain ⟨x7, ex7, hF⟩ := ltt_some hF
  refine lv_topi (fun zx7 ezx7 => ?_)
  obtain rfl : x7 = zx7 := ex7.trans ezx7.symm
  refine lv_iload hx hb dX9_guess_51 (lv_at hl 2 rfl) ?_
  refine lv_iconst (v := (1 : Int32)) hx hb dX9_guess_53 (by decide) ?_
  refine lv_isub hx hb dX9_guess_54 ?_
  obtain ⟨x8, ex8, hF⟩ := ltt_some hF
  refine lv_topi (fun zx8 ezx8 => ?_)
  obtain rfl : x8 = zx8 := ex8.trans ezx8.symm
  refine lv_iload hx hb dX9_guess_55 (lv_at hl 8 rfl) ?_
  obtain ⟨y9, hy9, hF⟩ := bnd_some hF
  have hf9 := wA_in hD hA9 hS
  refine va_calli (va_runV (As := [.int p0, .int x7, .int x8, .int p3]) (rest := []) ⟨hx, hb, hml, hown, hts⟩ (kX9_pieceAt l D ct ad Z G y6.1 H.size a p0 x7 x8 p3 y9 hc hk hy9) (cwV 4 hts gX9_guess_X9_pieceAt rfl rfl rfl (by decide +kernel) ⟨Nat.le_of_ble_eq_true rfl, Nat.le_of_ble_eq_true rfl⟩) ⟨fun a U g mk q => by obtain ⟨q0, q1, qP, qK, qD, qZ, qN⟩ := q; exact ⟨q0, q1, qP, va_K.moved (u := U) (U := U.calling g mk a) (Vm.Alike.refl U.vm) qK, qD, sF.moved (u := U) (U := U.calling g mk a) (Vm.Alike.refl U.vm) qZ, nF.same rfl qN⟩, va_recv hK hP (ci := 9) (q0 := a) rfl (wld_o ct ad G y6.1 hc hk (by decide)), fun U hU hW => ⟨rfl, by rw [hU], by rw [hU]; exact hP, va_K.moved hW.alike hK, hD.weaken (fun _ _ _ _ => trivial), by rw [hU]; exact ((hZ.kept hS.2.1).narrow hf9).moved hW.alike, hN.warm hW⟩⟩ rfl rfl hl.1 rfl (lv_room (Nat.le_of_ble_eq_true rfl)) dX9_guess_57 ⟨(Nat.zero_le _), (Nat.zero_le _)⟩) hS (fun q _ h => hf9 q h) hf9 (fun r u t H locs ht hvm hw hB hz1 hk1 hS => ?_)
  obtain ⟨hP, hK9, hD9⟩ := hB
  rw [ht] at hP
  try dsimp only at hw
  subst hw
  have hD := hD9.weaken (fun _ q _ h => hf9 q.1 h)
  refine lv_istore (lv' := [(11, .int y9.2), (10, .int y6.2), (9, .int y4.2), (8, .int y2.2), (7, .int y1.2), (0, .ref (ad a)), (1, .int p0), (2, .int p1), (3, .int p2), (4, .int p3), (5, .int p4), (6, .int p5)]) hx hb dX9_guess_60 hl (by decide) rfl (fun ls hl => ?_)
  refine lv_iload hx hb dX9_guess_62 (lv_at hl 0 rfl) ?_
  obtain ⟨y10, hy10, hF⟩ := bnd_some hF
  have J10 : ∀ (H : Heap) (locs : List Loc) (ls : Array Slot), va_P D classes (wld ct ad G y10.2) H → va_D A (wld ct ad G y10.2) → va_S A s.heap H locs → lv_has ls 16 [(11, .int y9.2), (10, .int y6.2), (9, .int y4.2), (8, .int y2.2), (7, .int y1.2), (0, .ref (ad a)), (1, .int p0), (2, .int p1), (3, .int p2), (4, .int p3), (5, .int p4), (6, .int p5)] → W p l e (headSpec wuX9_guess ({ frames := 1, cells := 0, slots := 0, locals := 34 })).room s m ([.ref (ad a), .int p0, .int p1, .int p2, .int p3, .int p4, .int p5] : List Value).toArray below meth c H locs 0 0 (MQ below (va_Qv (fun (_ : Unit) => True) (fun _ t => kE D ct ad G A y t) A) ([.ref (ad a), .int p0, .int p1, .int p2, .int p3, .int p4, .int p5] : List Value).toArray s 0 0 A) (F0 m 87 ls [.int y10.1]) := by
    intro H locs ls hP hD hS hl
    refine lv_istore (lv' := [(11, .int y10.1), (10, .int y6.2), (9, .int y4.2), (8, .int y2.2), (7, .int y1.2), (0, .ref (ad a)), (1, .int p0), (2, .int p1), (3, .int p2), (4, .int p3), (5, .int p4), (6, .int p5)]) hx hb dX9_guess_87 hl (by decide) rfl (fun ls hl => ?_)
    refine lv_aload_n hx hb dX9_guess_89 rfl (lv_at hl 5 rfl) ?_
    refine lv_iload_n hx hb dX9_guess_90 rfl (lv_at hl 7 rfl) ?_
    refine lv_iload hx hb dX9_guess_91 (lv_at hl 2 rfl) ?_
    obtain ⟨y11, hy11, hF⟩ := bnd_some hF
    have hf9 := wA_in hD hA9 hS
    refine va_calli (va_runV (As := [.int p1, .int y4.2]) (rest := []) ⟨hx, hb, hml, hown, hts⟩ (kX9_referenceAt l D ct ad Z G y10.2 H.size a p1 y4.2 y11 hc hk hy11) (cwV 2 hts gX9_guess_X9_referenceAt rfl rfl rfl (by decide +kernel) ⟨Nat.le_of_ble_eq_true rfl, Nat.le_of_ble_eq_true rfl⟩) ⟨fun a U g mk q => by obtain ⟨q0, q1, qP, qK, qD, qZ, qN⟩ := q; exact ⟨q0, q1, qP, va_K.moved (u := U) (U := U.calling g mk a) (Vm.Alike.refl U.vm) qK, qD, sF.moved (u := U) (U := U.calling g mk a) (Vm.Alike.refl U.vm) qZ, nF.same rfl qN⟩, va_recv hK hP (ci := 9) (q0 := a) rfl (wld_o ct ad G y10.2 hc hk (by decide)), fun U hU hW => ⟨rfl, by rw [hU], by rw [hU]; exact hP, va_K.moved hW.alike hK, hD.weaken (fun _ _ _ _ => trivial), by rw [hU]; exact ((hZ.kept hS.2.1).narrow hf9).moved hW.alike, hN.warm hW⟩⟩ rfl rfl hl.1 rfl (lv_room (Nat.le_of_ble_eq_true rfl)) dX9_guess_93 ⟨(Nat.zero_le _), (Nat.zero_le _)⟩) hS (fun q _ h => hf9 q h) hf9 (fun r u t H locs ht hvm hw hB hz1 hk1 hS => ?_)
    obtain ⟨hP, hK9, hD9⟩ := hB
    rw [ht] at hP
    try dsimp only at hw
    subst hw
    have hD := hD9.weaken (fun _ q _ h => hf9 q.1 h)
    refine lv_iload_n hx hb dX9_guess_96 rfl (lv_at hl 8 rfl) ?_
    obtain ⟨y12, hy12, hF⟩ := bnd_some hF
    have J12 : ∀ (H : Heap) (locs : List Loc) (ls : Array Slot), va_P D classes (wld ct ad G y11.1) H → va_D A (wld ct ad G y11.1) → va_S A s.heap H locs → lv_has ls 16 [(11, .int y10.1), (10, .int y6.2), (9, .int y4.2), (8, .int y2.2), (7, .int y1.2), (0, .ref (ad a)), (1, .int p0), (2, .int p1), (3, .int p2), (4, .int p3), (5, .int p4), (6, .int p5)] → W p l e (headSpec wuX9_guess ({ frames := 1, cells := 0, slots := 0, locals := 34 })).room s m ([.ref (ad a), .int p0, .int p1, .int p2, .int p3, .int p4, .int p5] : List Value).toArray below meth c H locs 0 0 (MQ below (va_Qv (fun (_ : Unit) => True) (fun _ t => kE D ct ad G A y t) A) ([.ref (ad a), .int p0, .int p1, .int p2, .int p3, .int p4, .int p5] : List Value).toArray s 0 0 A) (F0 m 105 ls [.int y12]) := by
      intro H locs ls hP hD hS hl
      refine lv_istore (lv' := [(12, .int y12), (11, .int y10.1), (10, .int y6.2), (9, .int y4.2), (8, .int y2.2), (7, .int y1.2), (0, .ref (ad a)), (1, .int p0), (2, .int p1), (3, .int p2), (4, .int p3), (5, .int p4), (6, .int p5)]) hx hb dX9_guess_105 hl (by decide) rfl (fun ls hl => ?_)
      refine lv_aload_n hx hb dX9_guess_107 rfl (lv_at hl 6 rfl) ?_
      refine lv_iload_n hx hb dX9_guess_108 rfl (lv_at hl 8 rfl) ?_
      refine lv_iload hx hb dX9_guess_109 (lv_at hl 2 rfl) ?_
      obtain ⟨y13, hy13, hF⟩ := bnd_some hF
      have hf9 := wA_in hD hA9 hS
      refine va_calli (va_runV (As := [.int p1, .int y6.2]) (rest := []) ⟨hx, hb, hml, hown, hts⟩ (kX9_referenceAt l D ct ad Z G y11.1 H.size a p1 y6.2 y13 hc hk hy13) (cwV 2 hts gX9_guess_X9_referenceAt rfl rfl rfl (by decide +kernel) ⟨Nat.le_of_ble_eq_true rfl, Nat.le_of_ble_eq_true rfl⟩) ⟨fun a U g mk q => by obtain ⟨q0, q1, qP, qK, qD, qZ, qN⟩ := q; exact ⟨q0, q1, qP, va_K.moved (u := U) (U := U.calling g mk a) (Vm.Alike.refl U.vm) qK, qD, sF.moved (u := U) (U := U.calling g mk a) (Vm.Alike.refl U.vm) qZ, nF.same rfl qN⟩, va_recv hK hP (ci := 9) (q0 := a) rfl (wld_o ct ad G y11.1 hc hk (by decide)), fun U hU hW => ⟨rfl, by rw [hU], by rw [hU]; exact hP, va_K.moved hW.alike hK, hD.weaken (fun _ _ _ _ => trivial), by rw [hU]; exact ((hZ.kept hS.2.1).narrow hf9).moved hW.alike, hN.warm hW⟩⟩ rfl rfl hl.1 rfl (lv_room (Nat.le_of_ble_eq_true rfl)) dX9_guess_111 ⟨(Nat.zero_le _), (Nat.zero_le _)⟩) hS (fun q _ h => hf9 q h) hf9 (fun r u t H locs ht hvm hw hB hz1 hk1 hS => ?_)
      obtain ⟨hP, hK9, hD9⟩ := hB
      rw [ht] at hP
      try dsimp only at hw
      subst hw
      have hD := hD9.weaken (fun _ q _ h => hf9 q.1 h)
      refine lv_iload_n hx hb dX9_guess_114 rfl (lv_at hl 9 rfl) ?_
      obtain ⟨y14, hy14, hF⟩ := bnd_some hF
      have J14 : ∀ (H : Heap) (locs : List Loc) (ls : Array Slot), va_P D classes (wld ct ad G y13.1) H → va_D A (wld ct ad G y13.1) → va_S A s.heap H locs → lv_has ls 16 [(12, .int y12), (11, .int y10.1), (10, .int y6.2), (9, .int y4.2), (8, .int y2.2), (7, .int y1.2), (0, .ref (ad a)), (1, .int p0), (2, .int p1), (3, .int p2), (4, .int p3), (5, .int p4), (6, .int p5)] → W p l e (headSpec wuX9_guess ({ frames := 1, cells := 0, slots := 0, locals := 34 })).room s m ([.ref (ad a), .int p0, .int p1, .int p2, .int p3, .int p4, .int p5] : List Value).toArray below meth c H locs 0 0 (MQ below (va_Qv (fun (_ : Unit) => True) (fun _ t => kE D ct ad G A y t) A) ([.ref (ad a), .int p0, .int p1, .int p2, .int p3, .int p4, .int p5] : List Value).toArray s 0 0 A) (F0 m 123 ls [.int y14]) := by
        intro H locs ls hP hD hS hl
        refine lv_istore (lv' := [(13, .int y14), (12, .int y12), (11, .int y10.1), (10, .int y6.2), (9, .int y4.2), (8, .int y2.2), (7, .int y1.2), (0, .ref (ad a)), (1, .int p0), (2, .int p1), (3, .int p2), (4, .int p3), (5, .int p4), (6, .int p5)]) hx hb dX9_guess_123 hl (by decide) rfl (fun ls hl => ?_)
        refine lv_aload_n hx hb dX9_guess_125 rfl (lv_at hl 7 rfl) ?_
        refine lv_iload_n hx hb dX9_guess_126 rfl (lv_at hl 9 rfl) ?_
        refine lv_iload hx hb dX9_guess_127 (lv_at hl 2 rfl) ?_
        obtain ⟨y15, hy15, hF⟩ := bnd_some hF
        have hf9 := wA_in hD hA9 hS
        refine va_calli (va_runV (As := [.int p1, .int y10.1]) (rest := []) ⟨hx, hb, hml, hown, hts⟩ (kX9_referenceAt l D ct ad Z G y13.1 H.size a p1 y10.1 y15 hc hk hy15) (cwV 2 hts gX9_guess_X9_referenceAt rfl rfl rfl (by decide +kernel) ⟨Nat.le_of_ble_eq_true rfl, Nat.le_of_ble_eq_true rfl⟩) ⟨fun a U g mk q => by obtain ⟨q0, q1, qP, qK, qD, qZ, qN⟩ := q; exact ⟨q0, q1, qP, va_K.moved (u := U) (U := U.calling g mk a) (Vm.Alike.refl U.vm) qK, qD, sF.moved (u := U) (U := U.calling g mk a) (Vm.Alike.refl U.vm) qZ, nF.same rfl qN⟩, va_recv hK hP (ci := 9) (q0 := a) rfl (wld_o ct ad G y13.1 hc hk (by decide)), fun U hU hW => ⟨rfl, by rw [hU], by rw [hU]; exact hP, va_K.moved hW.alike hK, hD.weaken (fun _ _ _ _ => trivial), by rw [hU]; exact ((hZ.kept hS.2.1).narrow hf9).moved hW.alike, hN.warm hW⟩⟩ rfl rfl hl.1 rfl (lv_room (Nat.le_of_ble_eq_true rfl)) dX9_guess_129 ⟨(Nat.zero_le _), (Nat.zero_le _)⟩) hS (fun q _ h => hf9 q h) hf9 (fun r u t H locs ht hvm hw hB hz1 hk1 hS => ?_)
        obtain ⟨hP, hK9, hD9⟩ := hB
        rw [ht] at hP
        try dsimp only at hw
        subst hw
        have hD := hD9.weaken (fun _ q _ h => hf9 q.1 h)
        refine lv_iload_n hx hb dX9_guess_132 rfl (lv_at hl 10 rfl) ?_
        obtain ⟨y16, hy16, hF⟩ := bnd_some hF
        have J16 : ∀ (H : Heap) (locs : List Loc) (ls : Array Slot), va_P D classes (wld ct ad G y15.1) H → va_D A (wld ct ad G y15.1) → va_S A s.heap H locs → lv_has ls 16 [(13, .int y14), (12, .int y12), (11, .int y10.1), (10, .int y6.2), (9, .int y4.2), (8, .int y2.2), (7, .int y1.2), (0, .ref (ad a)), (1, .int p0), (2, .int p1), (3, .int p2), (4, .int p3), (5, .int p4), (6, .int p5)] → W p l e (headSpec wuX9_guess ({ frames := 1, cells := 0, slots := 0, locals := 34 })).room s m ([.ref (ad a), .int p0, .int p1, .int p2, .int p3, .int p4, .int p5] : List Value).toArray below meth c H locs 0 0 (MQ below (va_Qv (fun (_ : Unit) => True) (fun _ t => kE D ct ad G A y t) A) ([.ref (ad a), .int p0, .int p1, .int p2, .int p3, .int p4, .int p5] : List Value).toArray s 0 0 A) (F0 m 141 ls [.int y16]) := by
          intro H locs ls hP hD hS hl
          refine lv_istore (lv' := [(14, .int y16), (13, .int y14), (12, .int y12), (11, .int y10.1), (10, .int y6.2), (9, .int y4.2), (8, .int y2.2), (7, .int y1.2), (0, .ref (ad a)), (1, .int p0), (2, .int p1), (3, .int p2), (4, .int p3), (5, .int p4), (6, .int p5)]) hx hb dX9_guess_141 hl (by decide) rfl (fun ls hl => ?_)
          refine lv_iload hx hb dX9_guess_143 (lv_at hl 2 rfl) ?_
          obtain ⟨y17, hy17, hF⟩ := bnd_some hF
          have J17 : ∀ (H : Heap) (locs : List Loc) (ls : Array Slot), va_P D classes (wld ct ad G y15.1) H → va_D A (wld ct ad G y15.1) → va_S A s.heap H locs → lv_has ls 16 [(14, .int y16), (13, .int y14), (12, .int y12), (11, .int y10.1), (10, .int y6.2), (9, .int y4.2), (8, .int y2.2), (7, .int y1.2), (0, .ref (ad a)), (1, .int p0), (2, .int p1), (3, .int p2), (4, .int p3), (5, .int p4), (6, .int p5)] → W p l e (headSpec wuX9_guess ({ frames := 1, cells := 0, slots := 0, locals := 34 })).room s m ([.ref (ad a), .int p0, .int p1, .int p2, .int p3, .int p4, .int p5] : List Value).toArray below meth c H locs 0 0 (MQ below (va_Qv (fun (_ : Unit) => True) (fun _ t => kE D ct ad G A y t) A) ([.ref (ad a), .int p0, .int p1, .int p2, .int p3, .int p4, .int p5] : List Value).toArray s 0 0 A) (F0 m 153 ls [.int y17]) := by
            intro H locs ls hP hD hS hl
            refine lv_iload hx hb dX9_guess_153 (lv_at hl 1 rfl) ?_
            obtain ⟨y18, hy18, hF⟩ := bnd_some hF
            have J18 : ∀ (H : Heap) (locs : List Loc) (ls : Array Slot), va_P D classes (wld ct ad G y15.1) H → va_D A (wld ct ad G y15.1) → va_S A s.heap H locs → lv_has ls 16 [(14, .int y16), (13, .int y14), (12, .int y12), (11, .int y10.1), (10, .int y6.2), (9, .int y4.2), (8, .int y2.2), (7, .int y1.2), (0, .ref (ad a)), (1, .int p0), (2, .int p1), (3, .int p2), (4, .int p3), (5, .int p4), (6, .int p5)] → W p l e (headSpec wuX9_guess ({ frames := 1, cells := 0, slots := 0, locals := 34 })).room s m ([.ref (ad a), .int p0, .int p1, .int p2, .int p3, .int p4, .int p5] : List Value).toArray below meth c H locs 0 0 (MQ below (va_Qv (fun (_ : Unit) => True) (fun _ t => kE D ct ad G A y t) A) ([.ref (ad a), .int p0, .int p1, .int p2, .int p3, .int p4, .int p5] : List Value).toArray s 0 0 A) (F0 m 163 ls [.int y18, .int y17]) := by
              intro H locs ls hP hD hS hl
              refine lv_iadd hx hb dX9_guess_163 ?_
              obtain ⟨x19, ex19, hF⟩ := ltt_some hF
              refine lv_topi (fun zx19 ezx19 => ?_)
              obtain rfl : x19 = zx19 := ex19.trans ezx19.symm
              refine lv_iload hx hb dX9_guess_164 (lv_at hl 0 rfl) ?_
              obtain ⟨y20, hy20, hF⟩ := bnd_some hF
              have J20 : ∀ (H : Heap) (locs : List Loc) (ls : Array Slot), va_P D classes (wld ct ad G y15.1) H → va_D A (wld ct ad G y15.1) → va_S A s.heap H locs → lv_has ls 16 [(14, .int y16), (13, .int y14), (12, .int y12), (11, .int y10.1), (10, .int y6.2), (9, .int y4.2), (8, .int y2.2), (7, .int y1.2), (0, .ref (ad a)), (1, .int p0), (2, .int p1), (3, .int p2), (4, .int p3), (5, .int p4), (6, .int p5)] → W p l e (headSpec wuX9_guess ({ frames := 1, cells := 0, slots := 0, locals := 34 })).room s m ([.ref (ad a), .int p0, .int p1, .int p2, .int p3, .int p4, .int p5] : List Value).toArray below meth c H locs 0 0 (MQ below (va_Qv (fun (_ : Unit) => True) (fun _ t => kE D ct ad G A y t) A) ([.ref (ad a), .int p0, .int p1, .int p2, .int p3, .int p4, .int p5] : List Value).toArray s 0 0 A) (F0 m 174 ls [.int y20, .int x19]) := by
                intro H locs ls hP hD hS hl
                refine lv_iadd hx hb dX9_guess_174 ?_
                obtain ⟨x21, ex21, hF⟩ := ltt_some hF
                refine lv_topi (fun zx21 ezx21 => ?_)
                obtain rfl : x21 = zx21 := ex21.trans ezx21.symm
                refine lv_istore (lv' := [(15, .int x21), (14, .int y16), (13, .int y14), (12, .int y12), (11, .int y10.1), (10, .int y6.2), (9, .int y4.2), (8, .int y2.2), (7, .int y1.2), (0, .ref (ad a)), (1, .int p0), (2, .int p1), (3, .int p2), (4, .int p3), (5, .int p4), (6, .int p5)]) hx hb dX9_guess_175 hl (by decide) rfl (fun ls hl => ?_)
                refine lv_iload hx hb dX9_guess_177 (lv_at hl 15 rfl) ?_
                refine lv_iconst (v := (1 : Int32)) hx hb dX9_guess_179 (by decide) ?_
                obtain ⟨y22, hy22, hF⟩ := bnd_some hF
                have J22 : ∀ (H : Heap) (locs : List Loc) (ls : Array Slot), va_P D classes (wld ct ad G y22) H → va_D A (wld ct ad G y22) → va_S A s.heap H locs → lv_has ls 16 [(15, .int x21), (14, .int y16), (13, .int y14), (12, .int y12), (11, .int y10.1), (10, .int y6.2), (9, .int y4.2), (8, .int y2.2), (7, .int y1.2), (0, .ref (ad a)), (1, .int p0), (2, .int p1), (3, .int p2), (4, .int p3), (5, .int p4), (6, .int p5)] → W p l e (headSpec wuX9_guess ({ frames := 1, cells := 0, slots := 0, locals := 34 })).room s m ([.ref (ad a), .int p0, .int p1, .int p2, .int p3, .int p4, .int p5] : List Value).toArray below meth c H locs 0 0 (MQ below (va_Qv (fun (_ : Unit) => True) (fun _ t => kE D ct ad G A y t) A) ([.ref (ad a), .int p0, .int p1, .int p2, .int p3, .int p4, .int p5] : List Value).toArray s 0 0 A) (F0 m 318 ls []) := by
                  intro H locs ls hP hD hS hl
                  obtain rfl := Option.some.inj hF
                  exact W.vret hx hb hr (fun t ht hW => ⟨⟨(), rfl, trivial, ⟨by rw [ht]; exact hP, va_K.moved hW.alike hK, hD⟩⟩, hS.F ht⟩) hS.2.2 dX9_guess_318
                clear hF
                have hF := hy22
                clear hy22
                refine lv_icmp_ne (tgt := 198) hx hb dX9_guess_180 (by decide) (fun c23 => ?_) (fun c23 => ?_)
                · rw [if_neg c23] at hF
                  refine lv_iload hx hb dX9_guess_198 (lv_at hl 15 rfl) ?_
                  refine lv_iconst (v := (2 : Int32)) hx hb dX9_guess_200 (by decide) ?_
                  obtain ⟨y24, hy24, hF⟩ := bnd_some hF
                  have J24 : ∀ (H : Heap) (locs : List Loc) (ls : Array Slot), va_P D classes (wld ct ad G y24) H → va_D A (wld ct ad G y24) → va_S A s.heap H locs → lv_has ls 16 [(15, .int x21), (14, .int y16), (13, .int y14), (12, .int y12), (11, .int y10.1), (10, .int y6.2), (9, .int y4.2), (8, .int y2.2), (7, .int y1.2), (0, .ref (ad a)), (1, .int p0), (2, .int p1), (3, .int p2), (4, .int p3), (5, .int p4), (6, .int p5)] → W p l e (headSpec wuX9_guess ({ frames := 1, cells := 0, slots := 0, locals := 34 })).room s m ([.ref (ad a), .int p0, .int p1, .int p2, .int p3, .int p4, .int p5] : List Value).toArray below meth c H locs 0 0 (MQ below (va_Qv (fun (_ : Unit) => True) (fun _ t => kE D ct ad G A y t) A) ([.ref (ad a), .int p0, .int p1, .int p2, .int p3, .int p4, .int p5] : List Value).toArray s 0 0 A) (F0 m 318 ls []) := by
                    intro H locs ls hP hD hS hl
                    obtain rfl := Option.some.inj hF
                    exact J22 _ _ _ hP hD hS (lv_sub hl [0, 1, 2, 3, 4, 5, 6, 7, 8, 9, 10, 11, 12, 13, 14, 15] rfl)
                  clear hF
                  have hF := hy24
                  clear hy24
                  refine lv_icmp_eq (tgt := 210) hx hb dX9_guess_201 (by decide) (fun c25 => ?_) (fun c25 => ?_)
                  · rw [if_pos c25] at hF
                    refine lv_iload hx hb dX9_guess_210 (lv_at hl 3 rfl) ?_
                    obtain ⟨y26, hy26, hF⟩ := bnd_some hF
                    have J26 : ∀ (H : Heap) (locs : List Loc) (ls : Array Slot), va_P D classes (wld ct ad G y26) H → va_D A (wld ct ad G y26) → va_S A s.heap H locs → lv_has ls 16 [(15, .int x21), (14, .int y16), (13, .int y14), (12, .int y12), (11, .int y10.1), (10, .int y6.2), (9, .int y4.2), (8, .int y2.2), (7, .int y1.2), (0, .ref (ad a)), (1, .int p0), (2, .int p1), (3, .int p2), (4, .int p3), (5, .int p4), (6, .int p5)] → W p l e (headSpec wuX9_guess ({ frames := 1, cells := 0, slots := 0, locals := 34 })).room s m ([.ref (ad a), .int p0, .int p1, .int p2, .int p3, .int p4, .int p5] : List Value).toArray below meth c H locs 0 0 (MQ below (va_Qv (fun (_ : Unit) => True) (fun _ t => kE D ct ad G A y t) A) ([.ref (ad a), .int p0, .int p1, .int p2, .int p3, .int p4, .int p5] : List Value).toArray s 0 0 A) (F0 m 318 ls []) := by
                      intro H locs ls hP hD hS hl
                      obtain rfl := Option.some.inj hF
                      exact J24 _ _ _ hP hD hS (lv_sub hl [0, 1, 2, 3, 4, 5, 6, 7, 8, 9, 10, 11, 12, 13, 14, 15] rfl)
                    clear hF
                    have hF := hy26
                    clear hy26
                    refine lv_if_eq (tgt := 225) hx hb dX9_guess_212 (by decide) (fun c27 => ?_) (fun c27 => ?_)
                    · rw [if_pos c27] at hF
                      refine lv_iload hx hb dX9_guess_225 (lv_at hl 15 rfl) ?_
                      refine lv_iconst (v := (4 : Int32)) hx hb dX9_guess_227 (by decide) ?_
                      obtain ⟨y28, hy28, hF⟩ := bnd_some hF
                      have J28 : ∀ (H : Heap) (locs : List Loc) (ls : Array Slot), va_P D classes (wld ct ad G y28) H → va_D A (wld ct ad G y28) → va_S A s.heap H locs → lv_has ls 16 [(15, .int x21), (14, .int y16), (13, .int y14), (12, .int y12), (11, .int y10.1), (10, .int y6.2), (9, .int y4.2), (8, .int y2.2), (7, .int y1.2), (0, .ref (ad a)), (1, .int p0), (2, .int p1), (3, .int p2), (4, .int p3), (5, .int p4), (6, .int p5)] → W p l e (headSpec wuX9_guess ({ frames := 1, cells := 0, slots := 0, locals := 34 })).room s m ([.ref (ad a), .int p0, .int p1, .int p2, .int p3, .int p4, .int p5] : List Value).toArray below meth c H locs 0 0 (MQ below (va_Qv (fun (_ : Unit) => True) (fun _ t => kE D ct ad G A y t) A) ([.ref (ad a), .int p0, .int p1, .int p2, .int p3, .int p4, .int p5] : List Value).toArray s 0 0 A) (F0 m 318 ls []) := by
                        intro H locs ls hP hD hS hl
                        obtain rfl := Option.some.inj hF
                        exact J26 _ _ _ hP hD hS (lv_sub hl [0, 1, 2, 3, 4, 5, 6, 7, 8, 9, 10, 11, 12, 13, 14, 15] rfl)
                      clear hF
                      have hF := hy28
                      clear hy28
                      refine lv_icmp_ne (tgt := 246) hx hb dX9_guess_228 (by decide) (fun c29 => ?_) (fun c29 => ?_)
                      · rw [if_neg c29] at hF
                        refine lv_iload hx hb dX9_guess_246 (lv_at hl 5 rfl) ?_
                        obtain ⟨y30, hy30, hF⟩ := bnd_some hF
                        have J30 : ∀ (H : Heap) (locs : List Loc) (ls : Array Slot), va_P D classes (wld ct ad G y30) H → va_D A (wld ct ad G y30) → va_S A s.heap H locs → lv_has ls 16 [(15, .int x21), (14, .int y16), (13, .int y14), (12, .int y12), (11, .int y10.1), (10, .int y6.2), (9, .int y4.2), (8, .int y2.2), (7, .int y1.2), (0, .ref (ad a)), (1, .int p0), (2, .int p1), (3, .int p2), (4, .int p3), (5, .int p4), (6, .int p5)] → W p l e (headSpec wuX9_guess ({ frames := 1, cells := 0, slots := 0, locals := 34 })).room s m ([.ref (ad a), .int p0, .int p1, .int p2, .int p3, .int p4, .int p5] : List Value).toArray below meth c H locs 0 0 (MQ below (va_Qv (fun (_ : Unit) => True) (fun _ t => kE D ct ad G A y t) A) ([.ref (ad a), .int p0, .int p1, .int p2, .int p3, .int p4, .int p5] : List Value).toArray s 0 0 A) (F0 m 318 ls []) := by
                          intro H locs ls hP hD hS hl
                          obtain rfl := Option.some.inj hF
                          exact J28 _ _ _ hP hD hS (lv_sub hl [0, 1, 2, 3, 4, 5, 6, 7, 8, 9, 10, 11, 12, 13, 14, 15] rfl)
                        clear hF
                        have hF := hy30
                        clear hy30
                        refine lv_if_ge (tgt := 271) hx hb dX9_guess_248 (by decide) (fun c31 => ?_) (fun c31 => ?_)
                        · rw [if_pos c31] at hF
                          refine lv_iload hx hb dX9_guess_271 (lv_at hl 0 rfl) ?_
                          refine lv_iconst (v := (1 : Int32)) hx hb dX9_guess_273 (by decide) ?_
                          obtain ⟨y32, hy32, hF⟩ := bnd_some hF
                          have J32 : ∀ (H : Heap) (locs : List Loc) (ls : Array Slot), va_P D classes (wld ct ad G y32) H → va_D A (wld ct ad G y32) → va_S A s.heap H locs → lv_has ls 16 [(15, .int x21), (14, .int y16), (13, .int y14), (12, .int y12), (11, .int y10.1), (10, .int y6.2), (9, .int y4.2), (8, .int y2.2), (7, .int y1.2), (0, .ref (ad a)), (1, .int p0), (2, .int p1), (3, .int p2), (4, .int p3), (5, .int p4), (6, .int p5)] → W p l e (headSpec wuX9_guess ({ frames := 1, cells := 0, slots := 0, locals := 34 })).room s m ([.ref (ad a), .int p0, .int p1, .int p2, .int p3, .int p4, .int p5] : List Value).toArray below meth c H locs 0 0 (MQ below (va_Qv (fun (_ : Unit) => True) (fun _ t => kE D ct ad G A y t) A) ([.ref (ad a), .int p0, .int p1, .int p2, .int p3, .int p4, .int p5] : List Value).toArray s 0 0 A) (F0 m 318 ls []) := by
                            intro H locs ls hP hD hS hl
                            obtain rfl := Option.some.inj hF
                            exact J30 _ _ _ hP hD hS (lv_sub hl [0, 1, 2, 3, 4, 5, 6, 7, 8, 9, 10, 11, 12, 13, 14, 15] rfl)
                          clear hF
                          have hF := hy32
                          clear hy32
                          refine lv_icmp_ne (tgt := 307) hx hb dX9_guess_274 (by decide) (fun c33 => ?_) (fun c33 => ?_)
                          · rw [if_neg c33] at hF
                            refine lv_aload_n hx hb dX9_guess_307 rfl (lv_at hl 9 rfl) ?_
                            refine lv_iload_n hx hb dX9_guess_308 rfl (lv_at hl 11 rfl) ?_
                            refine lv_iload hx hb dX9_guess_309 (lv_at hl 6 rfl) ?_
                            refine lv_iload hx hb dX9_guess_311 (lv_at hl 5 rfl) ?_
                            refine lv_iload hx hb dX9_guess_313 (lv_at hl 4 rfl) ?_
                            obtain ⟨y34, hy34, hF⟩ := bnd_some hF
                            have hf9 := wA_in hD hA9 hS
                            refine va_callv (va_runV (As := [.int p1, .int y4.2, .int y6.2, .int y10.1]) (rest := []) ⟨hx, hb, hml, hown, hts⟩ (kX9_adoptMedian l D ct ad Z G y15.1 H.size a p1 y4.2 y6.2 y10.1 y34 hc hk hy34) (cwV 4 hts gX9_guess_X9_adoptMedian rfl rfl rfl (by decide +kernel) ⟨Nat.le_of_ble_eq_true rfl, Nat.le_of_ble_eq_true rfl⟩) ⟨fun a U g mk q => by obtain ⟨q0, q1, qP, qK, qD, qZ, qN⟩ := q; exact ⟨q0, q1, qP, va_K.moved (u := U) (U := U.calling g mk a) (Vm.Alike.refl U.vm) qK, qD, sF.moved (u := U) (U := U.calling g mk a) (Vm.Alike.refl U.vm) qZ, nF.same rfl qN⟩, va_recv hK hP (ci := 9) (q0 := a) rfl (wld_o ct ad G y15.1 hc hk (by decide)), fun U hU hW => ⟨rfl, by rw [hU], by rw [hU]; exact hP, va_K.moved hW.alike hK, hD.weaken (fun _ _ _ _ => trivial), by rw [hU]; exact ((hZ.kept hS.2.1).narrow hf9).moved hW.alike, hN.warm hW⟩⟩ rfl rfl hl.1 rfl (lv_room (Nat.le_of_ble_eq_true rfl)) dX9_guess_315 ⟨(Nat.zero_le _), (Nat.zero_le _)⟩) hS (fun q _ h => hf9 q h) hf9 (fun u t H locs ht hvm hw hB hz1 hk1 hS => ?_)
                            obtain ⟨hP, hK9, hD9⟩ := hB
                            rw [ht] at hP
                            have hD := hD9.weaken (fun _ q _ h => hf9 q.1 h)
                            obtain rfl := Option.some.inj hF
                            exact J32 _ _ _ hP hD hS (lv_sub hl [0, 1, 2, 3, 4, 5, 6, 7, 8, 9, 10, 11, 12, 13, 14, 15] rfl)
                          · rw [if_pos c33] at hF
                            refine lv_aload_n hx hb dX9_guess_277 rfl (lv_at hl 9 rfl) ?_
                            refine lv_iload_n hx hb dX9_guess_278 rfl (lv_at hl 11 rfl) ?_
                            refine lv_iload hx hb dX9_guess_279 (lv_at hl 3 rfl) ?_
                            obtain ⟨y35, hy35, hF⟩ := bnd_some hF
                            have J35 : ∀ (H : Heap) (locs : List Loc) (ls : Array Slot), va_P D classes (wld ct ad G y15.1) H → va_D A (wld ct ad G y15.1) → va_S A s.heap H locs → lv_has ls 16 [(15, .int x21), (14, .int y16), (13, .int y14), (12, .int y12), (11, .int y10.1), (10, .int y6.2), (9, .int y4.2), (8, .int y2.2), (7, .int y1.2), (0, .ref (ad a)), (1, .int p0), (2, .int p1), (3, .int p2), (4, .int p3), (5, .int p4), (6, .int p5)] → W p l e (headSpec wuX9_guess ({ frames := 1, cells := 0, slots := 0, locals := 34 })).room s m ([.ref (ad a), .int p0, .int p1, .int p2, .int p3, .int p4, .int p5] : List Value).toArray below meth c H locs 0 0 (MQ below (va_Qv (fun (_ : Unit) => True) (fun _ t => kE D ct ad G A y t) A) ([.ref (ad a), .int p0, .int p1, .int p2, .int p3, .int p4, .int p5] : List Value).toArray s 0 0 A) (F0 m 301 ls [.int y35, .int p1, .ref (ad a)]) := by
                              intro H locs ls hP hD hS hl
                              obtain ⟨y36, hy36, hF⟩ := bnd_some hF
                              have hf9 := wA_in hD hA9 hS
                              refine va_callv (va_runV (As := [.int p1, .int y35]) (rest := []) ⟨hx, hb, hml, hown, hts⟩ (kX9_adopt l D ct ad Z G y15.1 H.size a p1 y35 y36 hc hk hy36) (cwV 2 hts gX9_guess_X9_adopt rfl rfl rfl (by decide +kernel) ⟨Nat.le_of_ble_eq_true rfl, Nat.le_of_ble_eq_true rfl⟩) ⟨fun a U g mk q => by obtain ⟨q0, q1, qP, qK, qD, qZ, qN⟩ := q; exact ⟨q0, q1, qP, va_K.moved (u := U) (U := U.calling g mk a) (Vm.Alike.refl U.vm) qK, qD, sF.moved (u := U) (U := U.calling g mk a) (Vm.Alike.refl U.vm) qZ, nF.same rfl qN⟩, va_recv hK hP (ci := 9) (q0 := a) rfl (wld_o ct ad G y15.1 hc hk (by decide)), fun U hU hW => ⟨rfl, by rw [hU], by rw [hU]; exact hP, va_K.moved hW.alike hK, hD.weaken (fun _ _ _ _ => trivial), by rw [hU]; exact ((hZ.kept hS.2.1).narrow hf9).moved hW.alike, hN.warm hW⟩⟩ rfl rfl hl.1 rfl (lv_room (Nat.le_of_ble_eq_true rfl)) dX9_guess_301 ⟨(Nat.zero_le _), (Nat.zero_le _)⟩) hS (fun q _ h => hf9 q h) hf9 (fun u t H locs ht hvm hw hB hz1 hk1 hS => ?_)
                              obtain ⟨hP, hK9, hD9⟩ := hB
                              rw [ht] at hP
                              have hD := hD9.weaken (fun _ q _ h => hf9 q.1 h)
                              refine lv_goto (tgt := 318) hx hb dX9_guess_304 (by decide) ?_
                              obtain rfl := Option.some.inj hF
                              exact J32 _ _ _ hP hD hS (lv_sub hl [0, 1, 2, 3, 4, 5, 6, 7, 8, 9, 10, 11, 12, 13, 14, 15] rfl)
                            clear hF
                            have hF := hy35
                            clear hy35
                            refine lv_if_eq (tgt := 289) hx hb dX9_guess_281 (by decide) (fun c37 => ?_) (fun c37 => ?_)
                            · rw [if_pos c37] at hF
                              refine lv_iload hx hb dX9_guess_289 (lv_at hl 2 rfl) ?_
                              obtain ⟨y38, hy38, hF⟩ := bnd_some hF
                              have J38 : ∀ (H : Heap) (locs : List Loc) (ls : Array Slot), va_P D classes (wld ct ad G y15.1) H → va_D A (wld ct ad G y15.1) → va_S A s.heap H locs → lv_has ls 16 [(15, .int x21), (14, .int y16), (13, .int y14), (12, .int y12), (11, .int y10.1), (10, .int y6.2), (9, .int y4.2), (8, .int y2.2), (7, .int y1.2), (0, .ref (ad a)), (1, .int p0), (2, .int p1), (3, .int p2), (4, .int p3), (5, .int p4), (6, .int p5)] → W p l e (headSpec wuX9_guess ({ frames := 1, cells := 0, slots := 0, locals := 34 })).room s m ([.ref (ad a), .int p0, .int p1, .int p2, .int p3, .int p4, .int p5] : List Value).toArray below meth c H locs 0 0 (MQ below (va_Qv (fun (_ : Unit) => True) (fun _ t => kE D ct ad G A y t) A) ([.ref (ad a), .int p0, .int p1, .int p2, .int p3, .int p4, .int p5] : List Value).toArray s 0 0 A) (F0 m 301 ls [.int y38, .int p1, .ref (ad a)]) := by
                                intro H locs ls hP hD hS hl
                                obtain rfl := Option.some.inj hF
                                exact J35 _ _ _ hP hD hS (lv_sub hl [0, 1, 2, 3, 4, 5, 6, 7, 8, 9, 10, 11, 12, 13, 14, 15] rfl)
                              clear hF
                              have hF := hy38
                              clear hy38
                              refine lv_if_eq (tgt := 299) hx hb dX9_guess_291 (by decide) (fun c39 => ?_) (fun c39 => ?_)
                              · rw [if_pos c39] at hF
                                refine lv_iload hx hb dX9_guess_299 (lv_at hl 4 rfl) ?_
                                obtain rfl := Option.some.inj hF
                                exact J38 _ _ _ hP hD hS (lv_sub hl [0, 1, 2, 3, 4, 5, 6, 7, 8, 9, 10, 11, 12, 13, 14, 15] rfl)
                              · rw [if_neg c39] at hF
                                refine lv_iload hx hb dX9_guess_294 (lv_at hl 5 rfl) ?_
                                refine lv_goto (tgt := 301) hx hb dX9_guess_296 (by decide) ?_
                                obtain rfl := Option.some.inj hF
                                exact J38 _ _ _ hP hD hS (lv_sub hl [0, 1, 2, 3, 4, 5, 6, 7, 8, 9, 10, 11, 12, 13, 14, 15] rfl)
                            · rw [if_neg c37] at hF
                              refine lv_iload hx hb dX9_guess_284 (lv_at hl 6 rfl) ?_
                              refine lv_goto (tgt := 301) hx hb dX9_guess_286 (by decide) ?_
                              obtain rfl := Option.some.inj hF
                              exact J35 _ _ _ hP hD hS (lv_sub hl [0, 1, 2, 3, 4, 5, 6, 7, 8, 9, 10, 11, 12, 13, 14, 15] rfl)
                        · rw [if_neg c31] at hF
                          refine lv_iload hx hb dX9_guess_251 (lv_at hl 4 rfl) ?_
                          obtain ⟨y40, hy40, hF⟩ := bnd_some hF
                          have J40 : ∀ (H : Heap) (locs : List Loc) (ls : Array Slot), va_P D classes (wld ct ad G y40) H → va_D A (wld ct ad G y40) → va_S A s.heap H locs → lv_has ls 16 [(15, .int x21), (14, .int y16), (13, .int y14), (12, .int y12), (11, .int y10.1), (10, .int y6.2), (9, .int y4.2), (8, .int y2.2), (7, .int y1.2), (0, .ref (ad a)), (1, .int p0), (2, .int p1), (3, .int p2), (4, .int p3), (5, .int p4), (6, .int p5)] → W p l e (headSpec wuX9_guess ({ frames := 1, cells := 0, slots := 0, locals := 34 })).room s m ([.ref (ad a), .int p0, .int p1, .int p2, .int p3, .int p4, .int p5] : List Value).toArray below meth c H locs 0 0 (MQ below (va_Qv (fun (_ : Unit) => True) (fun _ t => kE D ct ad G A y t) A) ([.ref (ad a), .int p0, .int p1, .int p2, .int p3, .int p4, .int p5] : List Value).toArray s 0 0 A) (F0 m 318 ls []) := by
                            intro H locs ls hP hD hS hl
                            obtain rfl := Option.some.inj hF
                            exact J30 _ _ _ hP hD hS (lv_sub hl [0, 1, 2, 3, 4, 5, 6, 7, 8, 9, 10, 11, 12, 13, 14, 15] rfl)
                          clear hF
                          have hF := hy40
                          clear hy40
                          refine lv_if_ge (tgt := 271) hx hb dX9_guess_253 (by decide) (fun c41 => ?_) (fun c41 => ?_)
                          · rw [if_pos c41] at hF
                            refine lv_iload hx hb dX9_guess_271 (lv_at hl 0 rfl) ?_
                            refine lv_iconst (v := (1 : Int32)) hx hb dX9_guess_273 (by decide) ?_
                            obtain ⟨y42, hy42, hF⟩ := bnd_some hF
                            have J42 : ∀ (H : Heap) (locs : List Loc) (ls : Array Slot), va_P D classes (wld ct ad G y42) H → va_D A (wld ct ad G y42) → va_S A s.heap H locs → lv_has ls 16 [(15, .int x21), (14, .int y16), (13, .int y14), (12, .int y12), (11, .int y10.1), (10, .int y6.2), (9, .int y4.2), (8, .int y2.2), (7, .int y1.2), (0, .ref (ad a)), (1, .int p0), (2, .int p1), (3, .int p2), (4, .int p3), (5, .int p4), (6, .int p5)] → W p l e (headSpec wuX9_guess ({ frames := 1, cells := 0, slots := 0, locals := 34 })).room s m ([.ref (ad a), .int p0, .int p1, .int p2, .int p3, .int p4, .int p5] : List Value).toArray below meth c H locs 0 0 (MQ below (va_Qv (fun (_ : Unit) => True) (fun _ t => kE D ct ad G A y t) A) ([.ref (ad a), .int p0, .int p1, .int p2, .int p3, .int p4, .int p5] : List Value).toArray s 0 0 A) (F0 m 318 ls []) := by
                              intro H locs ls hP hD hS hl
                              obtain rfl := Option.some.inj hF
                              exact J40 _ _ _ hP hD hS (lv_sub hl [0, 1, 2, 3, 4, 5, 6, 7, 8, 9, 10, 11, 12, 13, 14, 15] rfl)
                            clear hF
                            have hF := hy42
                            clear hy42
                            refine lv_icmp_ne (tgt := 307) hx hb dX9_guess_274 (by decide) (fun c43 => ?_) (fun c43 => ?_)
                            · rw [if_neg c43] at hF
                              refine lv_aload_n hx hb dX9_guess_307 rfl (lv_at hl 9 rfl) ?_
                              refine lv_iload_n hx hb dX9_guess_308 rfl (lv_at hl 11 rfl) ?_
                              refine lv_iload hx hb dX9_guess_309 (lv_at hl 6 rfl) ?_
                              refine lv_iload hx hb dX9_guess_311 (lv_at hl 5 rfl) ?_
                              refine lv_iload hx hb dX9_guess_313 (lv_at hl 4 rfl) ?_
                              obtain ⟨y44, hy44, hF⟩ := bnd_some hF
                              have hf9 := wA_in hD hA9 hS
                              refine va_callv (va_runV (As := [.int p1, .int y4.2, .int y6.2, .int y10.1]) (rest := []) ⟨hx, hb, hml, hown, hts⟩ (kX9_adoptMedian l D ct ad Z G y15.1 H.size a p1 y4.2 y6.2 y10.1 y44 hc hk hy44) (cwV 4 hts gX9_guess_X9_adoptMedian rfl rfl rfl (by decide +kernel) ⟨Nat.le_of_ble_eq_true rfl, Nat.le_of_ble_eq_true rfl⟩) ⟨fun a U g mk q => by obtain ⟨q0, q1, qP, qK, qD, qZ, qN⟩ := q; exact ⟨q0, q1, qP, va_K.moved (u := U) (U := U.calling g mk a) (Vm.Alike.refl U.vm) qK, qD, sF.moved (u := U) (U := U.calling g mk a) (Vm.Alike.refl U.vm) qZ, nF.same rfl qN⟩, va_recv hK hP (ci := 9) (q0 := a) rfl (wld_o ct ad G y15.1 hc hk (by decide)), fun U hU hW => ⟨rfl, by rw [hU], by rw [hU]; exact hP, va_K.moved hW.alike hK, hD.weaken (fun _ _ _ _ => trivial), by rw [hU]; exact ((hZ.kept hS.2.1).narrow hf9).moved hW.alike, hN.warm hW⟩⟩ rfl rfl hl.1 rfl (lv_room (Nat.le_of_ble_eq_true rfl)) dX9_guess_315 ⟨(Nat.zero_le _), (Nat.zero_le _)⟩) hS (fun q _ h => hf9 q h) hf9 (fun u t H locs ht hvm hw hB hz1 hk1 hS => ?_)
                              obtain ⟨hP, hK9, hD9⟩ := hB
                              rw [ht] at hP
                              have hD := hD9.weaken (fun _ q _ h => hf9 q.1 h)
                              obtain rfl := Option.some.inj hF
                              exact J42 _ _ _ hP hD hS (lv_sub hl [0, 1, 2, 3, 4, 5, 6, 7, 8, 9, 10, 11, 12, 13, 14, 15] rfl)
                            · rw [if_pos c43] at hF
                              refine lv_aload_n hx hb dX9_guess_277 rfl (lv_at hl 9 rfl) ?_
                              refine lv_iload_n hx hb dX9_guess_278 rfl (lv_at hl 11 rfl) ?_
                              refine lv_iload hx hb dX9_guess_279 (lv_at hl 3 rfl) ?_
                              obtain ⟨y45, hy45, hF⟩ := bnd_some hF
                              have J45 : ∀ (H : Heap) (locs : List Loc) (ls : Array Slot), va_P D classes (wld ct ad G y15.1) H → va_D A (wld ct ad G y15.1) → va_S A s.heap H locs → lv_has ls 16 [(15, .int x21), (14, .int y16), (13, .int y14), (12, .int y12), (11, .int y10.1), (10, .int y6.2), (9, .int y4.2), (8, .int y2.2), (7, .int y1.2), (0, .ref (ad a)), (1, .int p0), (2, .int p1), (3, .int p2), (4, .int p3), (5, .int p4), (6, .int p5)] → W p l e (headSpec wuX9_guess ({ frames := 1, cells := 0, slots := 0, locals := 34 })).room s m ([.ref (ad a), .int p0, .int p1, .int p2, .int p3, .int p4, .int p5] : List Value).toArray below meth c H locs 0 0 (MQ below (va_Qv (fun (_ : Unit) => True) (fun _ t => kE D ct ad G A y t) A) ([.ref (ad a), .int p0, .int p1, .int p2, .int p3, .int p4, .int p5] : List Value).toArray s 0 0 A) (F0 m 301 ls [.int y45, .int p1, .ref (ad a)]) := by
                                intro H locs ls hP hD hS hl
                                obtain ⟨y46, hy46, hF⟩ := bnd_some hF
                                have hf9 := wA_in hD hA9 hS
                                refine va_callv (va_runV (As := [.int p1, .int y45]) (rest := []) ⟨hx, hb, hml, hown, hts⟩ (kX9_adopt l D ct ad Z G y15.1 H.size a p1 y45 y46 hc hk hy46) (cwV 2 hts gX9_guess_X9_adopt rfl rfl rfl (by decide +kernel) ⟨Nat.le_of_ble_eq_true rfl, Nat.le_of_ble_eq_true rfl⟩) ⟨fun a U g mk q => by obtain ⟨q0, q1, qP, qK, qD, qZ, qN⟩ := q; exact ⟨q0, q1, qP, va_K.moved (u := U) (U := U.calling g mk a) (Vm.Alike.refl U.vm) qK, qD, sF.moved (u := U) (U := U.calling g mk a) (Vm.Alike.refl U.vm) qZ, nF.same rfl qN⟩, va_recv hK hP (ci := 9) (q0 := a) rfl (wld_o ct ad G y15.1 hc hk (by decide)), fun U hU hW => ⟨rfl, by rw [hU], by rw [hU]; exact hP, va_K.moved hW.alike hK, hD.weaken (fun _ _ _ _ => trivial), by rw [hU]; exact ((hZ.kept hS.2.1).narrow hf9).moved hW.alike, hN.warm hW⟩⟩ rfl rfl hl.1 rfl (lv_room (Nat.le_of_ble_eq_true rfl)) dX9_guess_301 ⟨(Nat.zero_le _), (Nat.zero_le _)⟩) hS (fun q _ h => hf9 q h) hf9 (fun u t H locs ht hvm hw hB hz1 hk1 hS => ?_)
                                obtain ⟨hP, hK9, hD9⟩ := hB
                                rw [ht] at hP
                                have hD := hD9.weaken (fun _ q _ h => hf9 q.1 h)
                                refine lv_goto (tgt := 318) hx hb dX9_guess_304 (by decide) ?_
                                obtain rfl := Option.some.inj hF
                                exact J42 _ _ _ hP hD hS (lv_sub hl [0, 1, 2, 3, 4, 5, 6, 7, 8, 9, 10, 11, 12, 13, 14, 15] rfl)
                              clear hF
                              have hF := hy45
                              clear hy45
                              refine lv_if_eq (tgt := 289) hx hb dX9_guess_281 (by decide) (fun c47 => ?_) (fun c47 => ?_)
                              · rw [if_pos c47] at hF
                                refine lv_iload hx hb dX9_guess_289 (lv_at hl 2 rfl) ?_
                                obtain ⟨y48, hy48, hF⟩ := bnd_some hF
                                have J48 : ∀ (H : Heap) (locs : List Loc) (ls : Array Slot), va_P D classes (wld ct ad G y15.1) H → va_D A (wld ct ad G y15.1) → va_S A s.heap H locs → lv_has ls 16 [(15, .int x21), (14, .int y16), (13, .int y14), (12, .int y12), (11, .int y10.1), (10, .int y6.2), (9, .int y4.2), (8, .int y2.2), (7, .int y1.2), (0, .ref (ad a)), (1, .int p0), (2, .int p1), (3, .int p2), (4, .int p3), (5, .int p4), (6, .int p5)] → W p l e (headSpec wuX9_guess ({ frames := 1, cells := 0, slots := 0, locals := 34 })).room s m ([.ref (ad a), .int p0, .int p1, .int p2, .int p3, .int p4, .int p5] : List Value).toArray below meth c H locs 0 0 (MQ below (va_Qv (fun (_ : Unit) => True) (fun _ t => kE D ct ad G A y t) A) ([.ref (ad a), .int p0, .int p1, .int p2, .int p3, .int p4, .int p5] : List Value).toArray s 0 0 A) (F0 m 301 ls [.int y48, .int p1, .ref (ad a)]) := by
                                  intro H locs ls hP hD hS hl
                                  obtain rfl := Option.some.inj hF
                                  exact J45 _ _ _ hP hD hS (lv_sub hl [0, 1, 2, 3, 4, 5, 6, 7, 8, 9, 10, 11, 12, 13, 14, 15] rfl)
                                clear hF
                                have hF := hy48
                                clear hy48
                                refine lv_if_eq (tgt := 299) hx hb dX9_guess_291 (by decide) (fun c49 => ?_) (fun c49 => ?_)
                                · rw [if_pos c49] at hF
                                  refine lv_iload hx hb dX9_guess_299 (lv_at hl 4 rfl) ?_
                                  obtain rfl := Option.some.inj hF
                                  exact J48 _ _ _ hP hD hS (lv_sub hl [0, 1, 2, 3, 4, 5, 6, 7, 8, 9, 10, 11, 12, 13, 14, 15] rfl)
                                · rw [if_neg c49] at hF
                                  refine lv_iload hx hb dX9_guess_294 (lv_at hl 5 rfl) ?_
                                  refine lv_goto (tgt := 301) hx hb dX9_guess_296 (by decide) ?_
                                  obtain rfl := Option.some.inj hF
                                  exact J48 _ _ _ hP hD hS (lv_sub hl [0, 1, 2, 3, 4, 5, 6, 7, 8, 9, 10, 11, 12, 13, 14, 15] rfl)
                              · rw [if_neg c47] at hF
                                refine lv_iload hx hb dX9_guess_284 (lv_at hl 6 rfl) ?_
                                refine lv_goto (tgt := 301) hx hb dX9_guess_286 (by decide) ?_
                                obtain rfl := Option.some.inj hF
                                exact J45 _ _ _ hP hD hS (lv_sub hl [0, 1, 2, 3, 4, 5, 6, 7, 8, 9, 10, 11, 12, 13, 14, 15] rfl)
                          · rw [if_neg c41] at hF
                            refine lv_iload hx hb dX9_guess_256 (lv_at hl 6 rfl) ?_
                            obtain ⟨y50, hy50, hF⟩ := bnd_some hF
                            have J50 : ∀ (H : Heap) (locs : List Loc) (ls : Array Slot), va_P D classes (wld ct ad G y50) H → va_D A (wld ct ad G y50) → va_S A s.heap H locs → lv_has ls 16 [(15, .int x21), (14, .int y16), (13, .int y14), (12, .int y12), (11, .int y10.1), (10, .int y6.2), (9, .int y4.2), (8, .int y2.2), (7, .int y1.2), (0, .ref (ad a)), (1, .int p0), (2, .int p1), (3, .int p2), (4, .int p3), (5, .int p4), (6, .int p5)] → W p l e (headSpec wuX9_guess ({ frames := 1, cells := 0, slots := 0, locals := 34 })).room s m ([.ref (ad a), .int p0, .int p1, .int p2, .int p3, .int p4, .int p5] : List Value).toArray below meth c H locs 0 0 (MQ below (va_Qv (fun (_ : Unit) => True) (fun _ t => kE D ct ad G A y t) A) ([.ref (ad a), .int p0, .int p1, .int p2, .int p3, .int p4, .int p5] : List Value).toArray s 0 0 A) (F0 m 318 ls []) := by
                              intro H locs ls hP hD hS hl
                              obtain rfl := Option.some.inj hF
                              exact J40 _ _ _ hP hD hS (lv_sub hl [0, 1, 2, 3, 4, 5, 6, 7, 8, 9, 10, 11, 12, 13, 14, 15] rfl)
                            clear hF
                            have hF := hy50
                            clear hy50
                            refine lv_if_lt (tgt := 271) hx hb dX9_guess_258 (by decide) (fun c51 => ?_) (fun c51 => ?_)
                            · rw [if_pos c51] at hF
                              refine lv_iload hx hb dX9_guess_271 (lv_at hl 0 rfl) ?_
                              refine lv_iconst (v := (1 : Int32)) hx hb dX9_guess_273 (by decide) ?_
                              obtain ⟨y52, hy52, hF⟩ := bnd_some hF
                              have J52 : ∀ (H : Heap) (locs : List Loc) (ls : Array Slot), va_P D classes (wld ct ad G y52) H → va_D A (wld ct ad G y52) → va_S A s.heap H locs → lv_has ls 16 [(15, .int x21), (14, .int y16), (13, .int y14), (12, .int y12), (11, .int y10.1), (10, .int y6.2), (9, .int y4.2), (8, .int y2.2), (7, .int y1.2), (0, .ref (ad a)), (1, .int p0), (2, .int p1), (3, .int p2), (4, .int p3), (5, .int p4), (6, .int p5)] → W p l e (headSpec wuX9_guess ({ frames := 1, cells := 0, slots := 0, locals := 34 })).room s m ([.ref (ad a), .int p0, .int p1, .int p2, .int p3, .int p4, .int p5] : List Value).toArray below meth c H locs 0 0 (MQ below (va_Qv (fun (_ : Unit) => True) (fun _ t => kE D ct ad G A y t) A) ([.ref (ad a), .int p0, .int p1, .int p2, .int p3, .int p4, .int p5] : List Value).toArray s 0 0 A) (F0 m 318 ls []) := by
                                intro H locs ls hP hD hS hl
                                obtain rfl := Option.some.inj hF
                                exact J50 _ _ _ hP hD hS (lv_sub hl [0, 1, 2, 3, 4, 5, 6, 7, 8, 9, 10, 11, 12, 13, 14, 15] rfl)
                              clear hF
                              have hF := hy52
                              clear hy52
                              refine lv_icmp_ne (tgt := 307) hx hb dX9_guess_274 (by decide) (fun c53 => ?_) (fun c53 => ?_)
                              · rw [if_neg c53] at hF
                                refine lv_aload_n hx hb dX9_guess_307 rfl (lv_at hl 9 rfl) ?_
                                refine lv_iload_n hx hb dX9_guess_308 rfl (lv_at hl 11 rfl) ?_
                                refine lv_iload hx hb dX9_guess_309 (lv_at hl 6 rfl) ?_
                                refine lv_iload hx hb dX9_guess_311 (lv_at hl 5 rfl) ?_
                                refine lv_iload hx hb dX9_guess_313 (lv_at hl 4 rfl) ?_
                                obtain ⟨y54, hy54, hF⟩ := bnd_some hF
                                have hf9 := wA_in hD hA9 hS
                                refine va_callv (va_runV (As := [.int p1, .int y4.2, .int y6.2, .int y10.1]) (rest := []) ⟨hx, hb, hml, hown, hts⟩ (kX9_adoptMedian l D ct ad Z G y15.1 H.size a p1 y4.2 y6.2 y10.1 y54 hc hk hy54) (cwV 4 hts gX9_guess_X9_adoptMedian rfl rfl rfl (by decide +kernel) ⟨Nat.le_of_ble_eq_true rfl, Nat.le_of_ble_eq_true rfl⟩) ⟨fun a U g mk q => by obtain ⟨q0, q1, qP, qK, qD, qZ, qN⟩ := q; exact ⟨q0, q1, qP, va_K.moved (u := U) (U := U.calling g mk a) (Vm.Alike.refl U.vm) qK, qD, sF.moved (u := U) (U := U.calling g mk a) (Vm.Alike.refl U.vm) qZ, nF.same rfl qN⟩, va_recv hK hP (ci := 9) (q0 := a) rfl (wld_o ct ad G y15.1 hc hk (by decide)), fun U hU hW => ⟨rfl, by rw [hU], by rw [hU]; exact hP, va_K.moved hW.alike hK, hD.weaken (fun _ _ _ _ => trivial), by rw [hU]; exact ((hZ.kept hS.2.1).narrow hf9).moved hW.alike, hN.warm hW⟩⟩ rfl rfl hl.1 rfl (lv_room (Nat.le_of_ble_eq_true rfl)) dX9_guess_315 ⟨(Nat.zero_le _), (Nat.zero_le _)⟩) hS (fun q _ h => hf9 q h) hf9 (fun u t H locs ht hvm hw hB hz1 hk1 hS => ?_)
                                obtain ⟨hP, hK9, hD9⟩ := hB
                                rw [ht] at hP
                                have hD := hD9.weaken (fun _ q _ h => hf9 q.1 h)
                                obtain rfl := Option.some.inj hF
                                exact J52 _ _ _ hP hD hS (lv_sub hl [0, 1, 2, 3, 4, 5, 6, 7, 8, 9, 10, 11, 12, 13, 14, 15] rfl)
                              · rw [if_pos c53] at hF
                                refine lv_aload_n hx hb dX9_guess_277 rfl (lv_at hl 9 rfl) ?_
                                refine lv_iload_n hx hb dX9_guess_278 rfl (lv_at hl 11 rfl) ?_
                                refine lv_iload hx hb dX9_guess_279 (lv_at hl 3 rfl) ?_
                                obtain ⟨y55, hy55, hF⟩ := bnd_some hF
                                have J55 : ∀ (H : Heap) (locs : List Loc) (ls : Array Slot), va_P D classes (wld ct ad G y15.1) H → va_D A (wld ct ad G y15.1) → va_S A s.heap H locs → lv_has ls 16 [(15, .int x21), (14, .int y16), (13, .int y14), (12, .int y12), (11, .int y10.1), (10, .int y6.2), (9, .int y4.2), (8, .int y2.2), (7, .int y1.2), (0, .ref (ad a)), (1, .int p0), (2, .int p1), (3, .int p2), (4, .int p3), (5, .int p4), (6, .int p5)] → W p l e (headSpec wuX9_guess ({ frames := 1, cells := 0, slots := 0, locals := 34 })).room s m ([.ref (ad a), .int p0, .int p1, .int p2, .int p3, .int p4, .int p5] : List Value).toArray below meth c H locs 0 0 (MQ below (va_Qv (fun (_ : Unit) => True) (fun _ t => kE D ct ad G A y t) A) ([.ref (ad a), .int p0, .int p1, .int p2, .int p3, .int p4, .int p5] : List Value).toArray s 0 0 A) (F0 m 301 ls [.int y55, .int p1, .ref (ad a)]) := by
                                  intro H locs ls hP hD hS hl
                                  obtain ⟨y56, hy56, hF⟩ := bnd_some hF
                                  have hf9 := wA_in hD hA9 hS
                                  refine va_callv (va_runV (As := [.int p1, .int y55]) (rest := []) ⟨hx, hb, hml, hown, hts⟩ (kX9_adopt l D ct ad Z G y15.1 H.size a p1 y55 y56 hc hk hy56) (cwV 2 hts gX9_guess_X9_adopt rfl rfl rfl (by decide +kernel) ⟨Nat.le_of_ble_eq_true rfl, Nat.le_of_ble_eq_true rfl⟩) ⟨fun a U g mk q => by obtain ⟨q0, q1, qP, qK, qD, qZ, qN⟩ := q; exact ⟨q0, q1, qP, va_K.moved (u := U) (U := U.calling g mk a) (Vm.Alike.refl U.vm) qK, qD, sF.moved (u := U) (U := U.calling g mk a) (Vm.Alike.refl U.vm) qZ, nF.same rfl qN⟩, va_recv hK hP (ci := 9) (q0 := a) rfl (wld_o ct ad G y15.1 hc hk (by decide)), fun U hU hW => ⟨rfl, by rw [hU], by rw [hU]; exact hP, va_K.moved hW.alike hK, hD.weaken (fun _ _ _ _ => trivial), by rw [hU]; exact ((hZ.kept hS.2.1).narrow hf9).moved hW.alike, hN.warm hW⟩⟩ rfl rfl hl.1 rfl (lv_room (Nat.le_of_ble_eq_true rfl)) dX9_guess_301 ⟨(Nat.zero_le _), (Nat.zero_le _)⟩) hS (fun q _ h => hf9 q h) hf9 (fun u t H locs ht hvm hw hB hz1 hk1 hS => ?_)
                                  obtain ⟨hP, hK9, hD9⟩ := hB
                                  rw [ht] at hP
                                  have hD := hD9.weaken (fun _ q _ h => hf9 q.1 h)
                                  refine lv_goto (tgt := 318) hx hb dX9_guess_304 (by decide) ?_
                                  obtain rfl := Option.some.inj hF
                                  exact J52 _ _ _ hP hD hS (lv_sub hl [0, 1, 2, 3, 4, 5, 6, 7, 8, 9, 10, 11, 12, 13, 14, 15] rfl)
                                clear hF
                                have hF := hy55
                                clear hy55
                                refine lv_if_eq (tgt := 289) hx hb dX9_guess_281 (by decide) (fun c57 => ?_) (fun c57 => ?_)
                                · rw [if_pos c57] at hF
                                  refine lv_iload hx hb dX9_guess_289 (lv_at hl 2 rfl) ?_
                                  obtain ⟨y58, hy58, hF⟩ := bnd_some hF
                                  have J58 : ∀ (H : Heap) (locs : List Loc) (ls : Array Slot), va_P D classes (wld ct ad G y15.1) H → va_D A (wld ct ad G y15.1) → va_S A s.heap H locs → lv_has ls 16 [(15, .int x21), (14, .int y16), (13, .int y14), (12, .int y12), (11, .int y10.1), (10, .int y6.2), (9, .int y4.2), (8, .int y2.2), (7, .int y1.2), (0, .ref (ad a)), (1, .int p0), (2, .int p1), (3, .int p2), (4, .int p3), (5, .int p4), (6, .int p5)] → W p l e (headSpec wuX9_guess ({ frames := 1, cells := 0, slots := 0, locals := 34 })).room s m ([.ref (ad a), .int p0, .int p1, .int p2, .int p3, .int p4, .int p5] : List Value).toArray below meth c H locs 0 0 (MQ below (va_Qv (fun (_ : Unit) => True) (fun _ t => kE D ct ad G A y t) A) ([.ref (ad a), .int p0, .int p1, .int p2, .int p3, .int p4, .int p5] : List Value).toArray s 0 0 A) (F0 m 301 ls [.int y58, .int p1, .ref (ad a)]) := by
                                    intro H locs ls hP hD hS hl
                                    obtain rfl := Option.some.inj hF
                                    exact J55 _ _ _ hP hD hS (lv_sub hl [0, 1, 2, 3, 4, 5, 6, 7, 8, 9, 10, 11, 12, 13, 14, 15] rfl)
                                  clear hF
                                  have hF := hy58
                                  clear hy58
                                  refine lv_if_eq (tgt := 299) hx hb dX9_guess_291 (by decide) (fun c59 => ?_) (fun c59 => ?_)
                                  · rw [if_pos c59] at hF
                                    refine lv_iload hx hb dX9_guess_299 (lv_at hl 4 rfl) ?_
                                    obtain rfl := Option.some.inj hF
                                    exact J58 _ _ _ hP hD hS (lv_sub hl [0, 1, 2, 3, 4, 5, 6, 7, 8, 9, 10, 11, 12, 13, 14, 15] rfl)
                                  · rw [if_neg c59] at hF
                                    refine lv_iload hx hb dX9_guess_294 (lv_at hl 5 rfl) ?_
                                    refine lv_goto (tgt := 301) hx hb dX9_guess_296 (by decide) ?_
                                    obtain rfl := Option.some.inj hF
                                    exact J58 _ _ _ hP hD hS (lv_sub hl [0, 1, 2, 3, 4, 5, 6, 7, 8, 9, 10, 11, 12, 13, 14, 15] rfl)
                                · rw [if_neg c57] at hF
                                  refine lv_iload hx hb dX9_guess_284 (lv_at hl 6 rfl) ?_
                                  refine lv_goto (tgt := 301) hx hb dX9_guess_286 (by decide) ?_
                                  obtain rfl := Option.some.inj hF
                                  exact J55 _ _ _ hP hD hS (lv_sub hl [0, 1, 2, 3, 4, 5, 6, 7, 8, 9, 10, 11, 12, 13, 14, 15] rfl)
                            · rw [if_neg c51] at hF
                              refine lv_aload_n hx hb dX9_guess_261 rfl (lv_at hl 9 rfl) ?_
                              refine lv_iload_n hx hb dX9_guess_262 rfl (lv_at hl 11 rfl) ?_
                              refine lv_iload hx hb dX9_guess_263 (lv_at hl 6 rfl) ?_
                              obtain ⟨y60, hy60, hF⟩ := bnd_some hF
                              have hf9 := wA_in hD hA9 hS
                              refine va_callv (va_runV (As := [.int p1, .int y4.2]) (rest := []) ⟨hx, hb, hml, hown, hts⟩ (kX9_adopt l D ct ad Z G y15.1 H.size a p1 y4.2 y60 hc hk hy60) (cwV 2 hts gX9_guess_X9_adopt rfl rfl rfl (by decide +kernel) ⟨Nat.le_of_ble_eq_true rfl, Nat.le_of_ble_eq_true rfl⟩) ⟨fun a U g mk q => by obtain ⟨q0, q1, qP, qK, qD, qZ, qN⟩ := q; exact ⟨q0, q1, qP, va_K.moved (u := U) (U := U.calling g mk a) (Vm.Alike.refl U.vm) qK, qD, sF.moved (u := U) (U := U.calling g mk a) (Vm.Alike.refl U.vm) qZ, nF.same rfl qN⟩, va_recv hK hP (ci := 9) (q0 := a) rfl (wld_o ct ad G y15.1 hc hk (by decide)), fun U hU hW => ⟨rfl, by rw [hU], by rw [hU]; exact hP, va_K.moved hW.alike hK, hD.weaken (fun _ _ _ _ => trivial), by rw [hU]; exact ((hZ.kept hS.2.1).narrow hf9).moved hW.alike, hN.warm hW⟩⟩ rfl rfl hl.1 rfl (lv_room (Nat.le_of_ble_eq_true rfl)) dX9_guess_265 ⟨(Nat.zero_le _), (Nat.zero_le _)⟩) hS (fun q _ h => hf9 q h) hf9 (fun u t H locs ht hvm hw hB hz1 hk1 hS => ?_)
                              obtain ⟨hP, hK9, hD9⟩ := hB
                              rw [ht] at hP
                              have hD := hD9.weaken (fun _ q _ h => hf9 q.1 h)
                              refine lv_goto (tgt := 318) hx hb dX9_guess_268 (by decide) ?_
                              obtain rfl := Option.some.inj hF
                              exact J50 _ _ _ hP hD hS (lv_sub hl [0, 1, 2, 3, 4, 5, 6, 7, 8, 9, 10, 11, 12, 13, 14, 15] rfl)
                      · rw [if_pos c29] at hF
                        refine lv_iload hx hb dX9_guess_231 (lv_at hl 1 rfl) ?_
                        obtain ⟨y61, hy61, hF⟩ := bnd_some hF
                        have J61 : ∀ (H : Heap) (locs : List Loc) (ls : Array Slot), va_P D classes (wld ct ad G y61) H → va_D A (wld ct ad G y61) → va_S A s.heap H locs → lv_has ls 16 [(15, .int x21), (14, .int y16), (13, .int y14), (12, .int y12), (11, .int y10.1), (10, .int y6.2), (9, .int y4.2), (8, .int y2.2), (7, .int y1.2), (0, .ref (ad a)), (1, .int p0), (2, .int p1), (3, .int p2), (4, .int p3), (5, .int p4), (6, .int p5)] → W p l e (headSpec wuX9_guess ({ frames := 1, cells := 0, slots := 0, locals := 34 })).room s m ([.ref (ad a), .int p0, .int p1, .int p2, .int p3, .int p4, .int p5] : List Value).toArray below meth c H locs 0 0 (MQ below (va_Qv (fun (_ : Unit) => True) (fun _ t => kE D ct ad G A y t) A) ([.ref (ad a), .int p0, .int p1, .int p2, .int p3, .int p4, .int p5] : List Value).toArray s 0 0 A) (F0 m 318 ls []) := by
                          intro H locs ls hP hD hS hl
                          obtain rfl := Option.some.inj hF
                          exact J28 _ _ _ hP hD hS (lv_sub hl [0, 1, 2, 3, 4, 5, 6, 7, 8, 9, 10, 11, 12, 13, 14, 15] rfl)
                        clear hF
                        have hF := hy61
                        clear hy61
                        refine lv_if_eq (tgt := 246) hx hb dX9_guess_233 (by decide) (fun c62 => ?_) (fun c62 => ?_)
                        · rw [if_pos c62] at hF
                          refine lv_iload hx hb dX9_guess_246 (lv_at hl 5 rfl) ?_
                          obtain ⟨y63, hy63, hF⟩ := bnd_some hF
                          have J63 : ∀ (H : Heap) (locs : List Loc) (ls : Array Slot), va_P D classes (wld ct ad G y63) H → va_D A (wld ct ad G y63) → va_S A s.heap H locs → lv_has ls 16 [(15, .int x21), (14, .int y16), (13, .int y14), (12, .int y12), (11, .int y10.1), (10, .int y6.2), (9, .int y4.2), (8, .int y2.2), (7, .int y1.2), (0, .ref (ad a)), (1, .int p0), (2, .int p1), (3, .int p2), (4, .int p3), (5, .int p4), (6, .int p5)] → W p l e (headSpec wuX9_guess ({ frames := 1, cells := 0, slots := 0, locals := 34 })).room s m ([.ref (ad a), .int p0, .int p1, .int p2, .int p3, .int p4, .int p5] : List Value).toArray below meth c H locs 0 0 (MQ below (va_Qv (fun (_ : Unit) => True) (fun _ t => kE D ct ad G A y t) A) ([.ref (ad a), .int p0, .int p1, .int p2, .int p3, .int p4, .int p5] : List Value).toArray s 0 0 A) (F0 m 318 ls []) := by
                            intro H locs ls hP hD hS hl
                            obtain rfl := Option.some.inj hF
                            exact J61 _ _ _ hP hD hS (lv_sub hl [0, 1, 2, 3, 4, 5, 6, 7, 8, 9, 10, 11, 12, 13, 14, 15] rfl)
                          clear hF
                          have hF := hy63
                          clear hy63
                          refine lv_if_ge (tgt := 271) hx hb dX9_guess_248 (by decide) (fun c64 => ?_) (fun c64 => ?_)
                          · rw [if_pos c64] at hF
                            refine lv_iload hx hb dX9_guess_271 (lv_at hl 0 rfl) ?_
                            refine lv_iconst (v := (1 : Int32)) hx hb dX9_guess_273 (by decide) ?_
                            obtain ⟨y65, hy65, hF⟩ := bnd_some hF
                            have J65 : ∀ (H : Heap) (locs : List Loc) (ls : Array Slot), va_P D classes (wld ct ad G y65) H → va_D A (wld ct ad G y65) → va_S A s.heap H locs → lv_has ls 16 [(15, .int x21), (14, .int y16), (13, .int y14), (12, .int y12), (11, .int y10.1), (10, .int y6.2), (9, .int y4.2), (8, .int y2.2), (7, .int y1.2), (0, .ref (ad a)), (1, .int p0), (2, .int p1), (3, .int p2), (4, .int p3), (5, .int p4), (6, .int p5)] → W p l e (headSpec wuX9_guess ({ frames := 1, cells := 0, slots := 0, locals := 34 })).room s m ([.ref (ad a), .int p0, .int p1, .int p2, .int p3, .int p4, .int p5] : List Value).toArray below meth c H locs 0 0 (MQ below (va_Qv (fun (_ : Unit) => True) (fun _ t => kE D ct ad G A y t) A) ([.ref (ad a), .int p0, .int p1, .int p2, .int p3, .int p4, .int p5] : List Value).toArray s 0 0 A) (F0 m 318 ls []) := by
                              intro H locs ls hP hD hS hl
                              obtain rfl := Option.some.inj hF
                              exact J63 _ _ _ hP hD hS (lv_sub hl [0, 1, 2, 3, 4, 5, 6, 7, 8, 9, 10, 11, 12, 13, 14, 15] rfl)
                            clear hF
                            have hF := hy65
                            clear hy65
                            refine lv_icmp_ne (tgt := 307) hx hb dX9_guess_274 (by decide) (fun c66 => ?_) (fun c66 => ?_)
                            · rw [if_neg c66] at hF
                              refine lv_aload_n hx hb dX9_guess_307 rfl (lv_at hl 9 rfl) ?_
                              refine lv_iload_n hx hb dX9_guess_308 rfl (lv_at hl 11 rfl) ?_
                              refine lv_iload hx hb dX9_guess_309 (lv_at hl 6 rfl) ?_
                              refine lv_iload hx hb dX9_guess_311 (lv_at hl 5 rfl) ?_
                              refine lv_iload hx hb dX9_guess_313 (lv_at hl 4 rfl) ?_
                              obtain ⟨y67, hy67, hF⟩ := bnd_some hF
                              have hf9 := wA_in hD hA9 hS
                              refine va_callv (va_runV (As := [.int p1, .int y4.2, .int y6.2, .int y10.1]) (rest := []) ⟨hx, hb, hml, hown, hts⟩ (kX9_adoptMedian l D ct ad Z G y15.1 H.size a p1 y4.2 y6.2 y10.1 y67 hc hk hy67) (cwV 4 hts gX9_guess_X9_adoptMedian rfl rfl rfl (by decide +kernel) ⟨Nat.le_of_ble_eq_true rfl, Nat.le_of_ble_eq_true rfl⟩) ⟨fun a U g mk q => by obtain ⟨q0, q1, qP, qK, qD, qZ, qN⟩ := q; exact ⟨q0, q1, qP, va_K.moved (u := U) (U := U.calling g mk a) (Vm.Alike.refl U.vm) qK, qD, sF.moved (u := U) (U := U.calling g mk a) (Vm.Alike.refl U.vm) qZ, nF.same rfl qN⟩, va_recv hK hP (ci := 9) (q0 := a) rfl (wld_o ct ad G y15.1 hc hk (by decide)), fun U hU hW => ⟨rfl, by rw [hU], by rw [hU]; exact hP, va_K.moved hW.alike hK, hD.weaken (fun _ _ _ _ => trivial), by rw [hU]; exact ((hZ.kept hS.2.1).narrow hf9).moved hW.alike, hN.warm hW⟩⟩ rfl rfl hl.1 rfl (lv_room (Nat.le_of_ble_eq_true rfl)) dX9_guess_315 ⟨(Nat.zero_le _), (Nat.zero_le _)⟩) hS (fun q _ h => hf9 q h) hf9 (fun u t H locs ht hvm hw hB hz1 hk1 hS => ?_)
                              obtain ⟨hP, hK9, hD9⟩ := hB
                              rw [ht] at hP
                              have hD := hD9.weaken (fun _ q _ h => hf9 q.1 h)
                              obtain rfl := Option.some.inj hF
                              exact J65 _ _ _ hP hD hS (lv_sub hl [0, 1, 2, 3, 4, 5, 6, 7, 8, 9, 10, 11, 12, 13, 14, 15] rfl)
                            · rw [if_pos c66] at hF
                              refine lv_aload_n hx hb dX9_guess_277 rfl (lv_at hl 9 rfl) ?_
                              refine lv_iload_n hx hb dX9_guess_278 rfl (lv_at hl 11 rfl) ?_
                              refine lv_iload hx hb dX9_guess_279 (lv_at hl 3 rfl) ?_
                              obtain ⟨y68, hy68, hF⟩ := bnd_some hF
                              have J68 : ∀ (H : Heap) (locs : List Loc) (ls : Array Slot), va_P D classes (wld ct ad G y15.1) H → va_D A (wld ct ad G y15.1) → va_S A s.heap H locs → lv_has ls 16 [(15, .int x21), (14, .int y16), (13, .int y14), (12, .int y12), (11, .int y10.1), (10, .int y6.2), (9, .int y4.2), (8, .int y2.2), (7, .int y1.2), (0, .ref (ad a)), (1, .int p0), (2, .int p1), (3, .int p2), (4, .int p3), (5, .int p4), (6, .int p5)] → W p l e (headSpec wuX9_guess ({ frames := 1, cells := 0, slots := 0, locals := 34 })).room s m ([.ref (ad a), .int p0, .int p1, .int p2, .int p3, .int p4, .int p5] : List Value).toArray below meth c H locs 0 0 (MQ below (va_Qv (fun (_ : Unit) => True) (fun _ t => kE D ct ad G A y t) A) ([.ref (ad a), .int p0, .int p1, .int p2, .int p3, .int p4, .int p5] : List Value).toArray s 0 0 A) (F0 m 301 ls [.int y68, .int p1, .ref (ad a)]) := by
                                intro H locs ls hP hD hS hl
                                obtain ⟨y69, hy69, hF⟩ := bnd_some hF
                                have hf9 := wA_in hD hA9 hS
                                refine va_callv (va_runV (As := [.int p1, .int y68]) (rest := []) ⟨hx, hb, hml, hown, hts⟩ (kX9_adopt l D ct ad Z G y15.1 H.size a p1 y68 y69 hc hk hy69) (cwV 2 hts gX9_guess_X9_adopt rfl rfl rfl (by decide +kernel) ⟨Nat.le_of_ble_eq_true rfl, Nat.le_of_ble_eq_true rfl⟩) ⟨fun a U g mk q => by obtain ⟨q0, q1, qP, qK, qD, qZ, qN⟩ := q; exact ⟨q0, q1, qP, va_K.moved (u := U) (U := U.calling g mk a) (Vm.Alike.refl U.vm) qK, qD, sF.moved (u := U) (U := U.calling g mk a) (Vm.Alike.refl U.vm) qZ, nF.same rfl qN⟩, va_recv hK hP (ci := 9) (q0 := a) rfl (wld_o ct ad G y15.1 hc hk (by decide)), fun U hU hW => ⟨rfl, by rw [hU], by rw [hU]; exact hP, va_K.moved hW.alike hK, hD.weaken (fun _ _ _ _ => trivial), by rw [hU]; exact ((hZ.kept hS.2.1).narrow hf9).moved hW.alike, hN.warm hW⟩⟩ rfl rfl hl.1 rfl (lv_room (Nat.le_of_ble_eq_true rfl)) dX9_guess_301 ⟨(Nat.zero_le _), (Nat.zero_le _)⟩) hS (fun q _ h => hf9 q h) hf9 (fun u t H locs ht hvm hw hB hz1 hk1 hS => ?_)
                                obtain ⟨hP, hK9, hD9⟩ := hB
                                rw [ht] at hP
                                have hD := hD9.weaken (fun _ q _ h => hf9 q.1 h)
                                refine lv_goto (tgt := 318) hx hb dX9_guess_304 (by decide) ?_
                                obtain rfl := Option.some.inj hF
                                exact J65 _ _ _ hP hD hS (lv_sub hl [0, 1, 2, 3, 4, 5, 6, 7, 8, 9, 10, 11, 12, 13, 14, 15] rfl)
                              clear hF
                              have hF := hy68
                              clear hy68
                              refine lv_if_eq (tgt := 289) hx hb dX9_guess_281 (by decide) (fun c70 => ?_) (fun c70 => ?_)
                              · rw [if_pos c70] at hF
                                refine lv_iload hx hb dX9_guess_289 (lv_at hl 2 rfl) ?_
                                obtain ⟨y71, hy71, hF⟩ := bnd_some hF
                                have J71 : ∀ (H : Heap) (locs : List Loc) (ls : Array Slot), va_P D classes (wld ct ad G y15.1) H → va_D A (wld ct ad G y15.1) → va_S A s.heap H locs → lv_has ls 16 [(15, .int x21), (14, .int y16), (13, .int y14), (12, .int y12), (11, .int y10.1), (10, .int y6.2), (9, .int y4.2), (8, .int y2.2), (7, .int y1.2), (0, .ref (ad a)), (1, .int p0), (2, .int p1), (3, .int p2), (4, .int p3), (5, .int p4), (6, .int p5)] → W p l e (headSpec wuX9_guess ({ frames := 1, cells := 0, slots := 0, locals := 34 })).room s m ([.ref (ad a), .int p0, .int p1, .int p2, .int p3, .int p4, .int p5] : List Value).toArray below meth c H locs 0 0 (MQ below (va_Qv (fun (_ : Unit) => True) (fun _ t => kE D ct ad G A y t) A) ([.ref (ad a), .int p0, .int p1, .int p2, .int p3, .int p4, .int p5] : List Value).toArray s 0 0 A) (F0 m 301 ls [.int y71, .int p1, .ref (ad a)]) := by
                                  intro H locs ls hP hD hS hl
                                  obtain rfl := Option.some.inj hF
                                  exact J68 _ _ _ hP hD hS (lv_sub hl [0, 1, 2, 3, 4, 5, 6, 7, 8, 9, 10, 11, 12, 13, 14, 15] rfl)
                                clear hF
                                have hF := hy71
                                clear hy71
                                refine lv_if_eq (tgt := 299) hx hb dX9_guess_291 (by decide) (fun c72 => ?_) (fun c72 => ?_)
                                · rw [if_pos c72] at hF
                                  refine lv_iload hx hb dX9_guess_299 (lv_at hl 4 rfl) ?_
                                  obtain rfl := Option.some.inj hF
                                  exact J71 _ _ _ hP hD hS (lv_sub hl [0, 1, 2, 3, 4, 5, 6, 7, 8, 9, 10, 11, 12, 13, 14, 15] rfl)
                                · rw [if_neg c72] at hF
                                  refine lv_iload hx hb dX9_guess_294 (lv_at hl 5 rfl) ?_
                                  refine lv_goto (tgt := 301) hx hb dX9_guess_296 (by decide) ?_
                                  obtain rfl := Option.some.inj hF
                                  exact J71 _ _ _ hP hD hS (lv_sub hl [0, 1, 2, 3, 4, 5, 6, 7, 8, 9, 10, 11, 12, 13, 14, 15] rfl)
                              · rw [if_neg c70] at hF
                                refine lv_iload hx hb dX9_guess_284 (lv_at hl 6 rfl) ?_
                                refine lv_goto (tgt := 301) hx hb dX9_guess_286 (by decide) ?_
                                obtain rfl := Option.some.inj hF
                                exact J68 _ _ _ hP hD hS (lv_sub hl [0, 1, 2, 3, 4, 5, 6, 7, 8, 9, 10, 11, 12, 13, 14, 15] rfl)
                          · rw [if_neg c64] at hF
                            refine lv_iload hx hb dX9_guess_251 (lv_at hl 4 rfl) ?_
                            obtain ⟨y73, hy73, hF⟩ := bnd_some hF
                            have J73 : ∀ (H : Heap) (locs : List Loc) (ls : Array Slot), va_P D classes (wld ct ad G y73) H → va_D A (wld ct ad G y73) → va_S A s.heap H locs → lv_has ls 16 [(15, .int x21), (14, .int y16), (13, .int y14), (12, .int y12), (11, .int y10.1), (10, .int y6.2), (9, .int y4.2), (8, .int y2.2), (7, .int y1.2), (0, .ref (ad a)), (1, .int p0), (2, .int p1), (3, .int p2), (4, .int p3), (5, .int p4), (6, .int p5)] → W p l e (headSpec wuX9_guess ({ frames := 1, cells := 0, slots := 0, locals := 34 })).room s m ([.ref (ad a), .int p0, .int p1, .int p2, .int p3, .int p4, .int p5] : List Value).toArray below meth c H locs 0 0 (MQ below (va_Qv (fun (_ : Unit) => True) (fun _ t => kE D ct ad G A y t) A) ([.ref (ad a), .int p0, .int p1, .int p2, .int p3, .int p4, .int p5] : List Value).toArray s 0 0 A) (F0 m 318 ls []) := by
                              intro H locs ls hP hD hS hl
                              obtain rfl := Option.some.inj hF
                              exact J63 _ _ _ hP hD hS (lv_sub hl [0, 1, 2, 3, 4, 5, 6, 7, 8, 9, 10, 11, 12, 13, 14, 15] rfl)
                            clear hF
                            have hF := hy73
                            clear hy73
                            refine lv_if_ge (tgt := 271) hx hb dX9_guess_253 (by decide) (fun c74 => ?_) (fun c74 => ?_)
                            · rw [if_pos c74] at hF
                              refine lv_iload hx hb dX9_guess_271 (lv_at hl 0 rfl) ?_
                              refine lv_iconst (v := (1 : Int32)) hx hb dX9_guess_273 (by decide) ?_
                              obtain ⟨y75, hy75, hF⟩ := bnd_some hF
                              have J75 : ∀ (H : Heap) (locs : List Loc) (ls : Array Slot), va_P D classes (wld ct ad G y75) H → va_D A (wld ct ad G y75) → va_S A s.heap H locs → lv_has ls 16 [(15, .int x21), (14, .int y16), (13, .int y14), (12, .int y12), (11, .int y10.1), (10, .int y6.2), (9, .int y4.2), (8, .int y2.2), (7, .int y1.2), (0, .ref (ad a)), (1, .int p0), (2, .int p1), (3, .int p2), (4, .int p3), (5, .int p4), (6, .int p5)] → W p l e (headSpec wuX9_guess ({ frames := 1, cells := 0, slots := 0, locals := 34 })).room s m ([.ref (ad a), .int p0, .int p1, .int p2, .int p3, .int p4, .int p5] : List Value).toArray below meth c H locs 0 0 (MQ below (va_Qv (fun (_ : Unit) => True) (fun _ t => kE D ct ad G A y t) A) ([.ref (ad a), .int p0, .int p1, .int p2, .int p3, .int p4, .int p5] : List Value).toArray s 0 0 A) (F0 m 318 ls []) := by
                                intro H locs ls hP hD hS hl
                                obtain rfl := Option.some.inj hF
                                exact J73 _ _ _ hP hD hS (lv_sub hl [0, 1, 2, 3, 4, 5, 6, 7, 8, 9, 10, 11, 12, 13, 14, 15] rfl)
                              clear hF
                              have hF := hy75
                              clear hy75
                              refine lv_icmp_ne (tgt := 307) hx hb dX9_guess_274 (by decide) (fun c76 => ?_) (fun c76 => ?_)
                              · rw [if_neg c76] at hF
                                refine lv_aload_n hx hb dX9_guess_307 rfl (lv_at hl 9 rfl) ?_
                                refine lv_iload_n hx hb dX9_guess_308 rfl (lv_at hl 11 rfl) ?_
                                refine lv_iload hx hb dX9_guess_309 (lv_at hl 6 rfl) ?_
                                refine lv_iload hx hb dX9_guess_311 (lv_at hl 5 rfl) ?_
                                refine lv_iload hx hb dX9_guess_313 (lv_at hl 4 rfl) ?_
                                obtain ⟨y77, hy77, hF⟩ := bnd_some hF
                                have hf9 := wA_in hD hA9 hS
                                refine va_callv (va_runV (As := [.int p1, .int y4.2, .int y6.2, .int y10.1]) (rest := []) ⟨hx, hb, hml, hown, hts⟩ (kX9_adoptMedian l D ct ad Z G y15.1 H.size a p1 y4.2 y6.2 y10.1 y77 hc hk hy77) (cwV 4 hts gX9_guess_X9_adoptMedian rfl rfl rfl (by decide +kernel) ⟨Nat.le_of_ble_eq_true rfl, Nat.le_of_ble_eq_true rfl⟩) ⟨fun a U g mk q => by obtain ⟨q0, q1, qP, qK, qD, qZ, qN⟩ := q; exact ⟨q0, q1, qP, va_K.moved (u := U) (U := U.calling g mk a) (Vm.Alike.refl U.vm) qK, qD, sF.moved (u := U) (U := U.calling g mk a) (Vm.Alike.refl U.vm) qZ, nF.same rfl qN⟩, va_recv hK hP (ci := 9) (q0 := a) rfl (wld_o ct ad G y15.1 hc hk (by decide)), fun U hU hW => ⟨rfl, by rw [hU], by rw [hU]; exact hP, va_K.moved hW.alike hK, hD.weaken (fun _ _ _ _ => trivial), by rw [hU]; exact ((hZ.kept hS.2.1).narrow hf9).moved hW.alike, hN.warm hW⟩⟩ rfl rfl hl.1 rfl (lv_room (Nat.le_of_ble_eq_true rfl)) dX9_guess_315 ⟨(Nat.zero_le _), (Nat.zero_le _)⟩) hS (fun q _ h => hf9 q h) hf9 (fun u t H locs ht hvm hw hB hz1 hk1 hS => ?_)
                                obtain ⟨hP, hK9, hD9⟩ := hB
                                rw [ht] at hP
                                have hD := hD9.weaken (fun _ q _ h => hf9 q.1 h)
                                obtain rfl := Option.some.inj hF
                                exact J75 _ _ _ hP hD hS (lv_sub hl [0, 1, 2, 3, 4, 5, 6, 7, 8, 9, 10, 11, 12, 13, 14, 15] rfl)
                              · rw [if_pos c76] at hF
                                refine lv_aload_n hx hb dX9_guess_277 rfl (lv_at hl 9 rfl) ?_
                                refine lv_iload_n hx hb dX9_guess_278 rfl (lv_at hl 11 rfl) ?_
                                refine lv_iload hx hb dX9_guess_279 (lv_at hl 3 rfl) ?_
                                obtain ⟨y78, hy78, hF⟩ := bnd_some hF
                                have J78 : ∀ (H : Heap) (locs : List Loc) (ls : Array Slot), va_P D classes (wld ct ad G y15.1) H → va_D A (wld ct ad G y15.1) → va_S A s.heap H locs → lv_has ls 16 [(15, .int x21), (14, .int y16), (13, .int y14), (12, .int y12), (11, .int y10.1), (10, .int y6.2), (9, .int y4.2), (8, .int y2.2), (7, .int y1.2), (0, .ref (ad a)), (1, .int p0), (2, .int p1), (3, .int p2), (4, .int p3), (5, .int p4), (6, .int p5)] → W p l e (headSpec wuX9_guess ({ frames := 1, cells := 0, slots := 0, locals := 34 })).room s m ([.ref (ad a), .int p0, .int p1, .int p2, .int p3, .int p4, .int p5] : List Value).toArray below meth c H locs 0 0 (MQ below (va_Qv (fun (_ : Unit) => True) (fun _ t => kE D ct ad G A y t) A) ([.ref (ad a), .int p0, .int p1, .int p2, .int p3, .int p4, .int p5] : List Value).toArray s 0 0 A) (F0 m 301 ls [.int y78, .int p1, .ref (ad a)]) := by
                                  intro H locs ls hP hD hS hl
                                  obtain ⟨y79, hy79, hF⟩ := bnd_some hF
                                  have hf9 := wA_in hD hA9 hS
                                  refine va_callv (va_runV (As := [.int p1, .int y78]) (rest := []) ⟨hx, hb, hml, hown, hts⟩ (kX9_adopt l D ct ad Z G y15.1 H.size a p1 y78 y79 hc hk hy79) (cwV 2 hts gX9_guess_X9_adopt rfl rfl rfl (by decide +kernel) ⟨Nat.le_of_ble_eq_true rfl, Nat.le_of_ble_eq_true rfl⟩) ⟨fun a U g mk q => by obtain ⟨q0, q1, qP, qK, qD, qZ, qN⟩ := q; exact ⟨q0, q1, qP, va_K.moved (u := U) (U := U.calling g mk a) (Vm.Alike.refl U.vm) qK, qD, sF.moved (u := U) (U := U.calling g mk a) (Vm.Alike.refl U.vm) qZ, nF.same rfl qN⟩, va_recv hK hP (ci := 9) (q0 := a) rfl (wld_o ct ad G y15.1 hc hk (by decide)), fun U hU hW => ⟨rfl, by rw [hU], by rw [hU]; exact hP, va_K.moved hW.alike hK, hD.weaken (fun _ _ _ _ => trivial), by rw [hU]; exact ((hZ.kept hS.2.1).narrow hf9).moved hW.alike, hN.warm hW⟩⟩ rfl rfl hl.1 rfl (lv_room (Nat.le_of_ble_eq_true rfl)) dX9_guess_301 ⟨(Nat.zero_le _), (Nat.zero_le _)⟩) hS (fun q _ h => hf9 q h) hf9 (fun u t H locs ht hvm hw hB hz1 hk1 hS => ?_)
                                  obtain ⟨hP, hK9, hD9⟩ := hB
                                  rw [ht] at hP
                                  have hD := hD9.weaken (fun _ q _ h => hf9 q.1 h)
                                  refine lv_goto (tgt := 318) hx hb dX9_guess_304 (by decide) ?_
                                  obtain rfl := Option.some.inj hF
                                  exact J75 _ _ _ hP hD hS (lv_sub hl [0, 1, 2, 3, 4, 5, 6, 7, 8, 9, 10, 11, 12, 13, 14, 15] rfl)
                                clear hF
                                have hF := hy78
                                clear hy78
                                refine lv_if_eq (tgt := 289) hx hb dX9_guess_281 (by decide) (fun c80 => ?_) (fun c80 => ?_)
                                · rw [if_pos c80] at hF
                                  refine lv_iload hx hb dX9_guess_289 (lv_at hl 2 rfl) ?_
                                  obtain ⟨y81, hy81, hF⟩ := bnd_some hF
                                  have J81 : ∀ (H : Heap) (locs : List Loc) (ls : Array Slot), va_P D classes (wld ct ad G y15.1) H → va_D A (wld ct ad G y15.1) → va_S A s.heap H locs → lv_has ls 16 [(15, .int x21), (14, .int y16), (13, .int y14), (12, .int y12), (11, .int y10.1), (10, .int y6.2), (9, .int y4.2), (8, .int y2.2), (7, .int y1.2), (0, .ref (ad a)), (1, .int p0), (2, .int p1), (3, .int p2), (4, .int p3), (5, .int p4), (6, .int p5)] → W p l e (headSpec wuX9_guess ({ frames := 1, cells := 0, slots := 0, locals := 34 })).room s m ([.ref (ad a), .int p0, .int p1, .int p2, .int p3, .int p4, .int p5] : List Value).toArray below meth c H locs 0 0 (MQ below (va_Qv (fun (_ : Unit) => True) (fun _ t => kE D ct ad G A y t) A) ([.ref (ad a), .int p0, .int p1, .int p2, .int p3, .int p4, .int p5] : List Value).toArray s 0 0 A) (F0 m 301 ls [.int y81, .int p1, .ref (ad a)]) := by
                                    intro H locs ls hP hD hS hl
                                    obtain rfl := Option.some.inj hF
                                    exact J78 _ _ _ hP hD hS (lv_sub hl [0, 1, 2, 3, 4, 5, 6, 7, 8, 9, 10, 11, 12, 13, 14, 15] rfl)
                                  clear hF
                                  have hF := hy81
                                  clear hy81
                                  refine lv_if_eq (tgt := 299) hx hb dX9_guess_291 (by decide) (fun c82 => ?_) (fun c82 => ?_)
                                  · rw [if_pos c82] at hF
                                    refine lv_iload hx hb dX9_guess_299 (lv_at hl 4 rfl) ?_
                                    obtain rfl := Option.some.inj hF
                                    exact J81 _ _ _ hP hD hS (lv_sub hl [0, 1, 2, 3, 4, 5, 6, 7, 8, 9, 10, 11, 12, 13, 14, 15] rfl)
                                  · rw [if_neg c82] at hF
                                    refine lv_iload hx hb dX9_guess_294 (lv_at hl 5 rfl) ?_
                                    refine lv_goto (tgt := 301) hx hb dX9_guess_296 (by decide) ?_
                                    obtain rfl := Option.some.inj hF
                                    exact J81 _ _ _ hP hD hS (lv_sub hl [0, 1, 2, 3, 4, 5, 6, 7, 8, 9, 10, 11, 12, 13, 14, 15] rfl)
                                · rw [if_neg c80] at hF
                                  refine lv_iload hx hb dX9_guess_284 (lv_at hl 6 rfl) ?_
                                  refine lv_goto (tgt := 301) hx hb dX9_guess_286 (by decide) ?_
                                  obtain rfl := Option.some.inj hF
                                  exact J78 _ _ _ hP hD hS (lv_sub hl [0, 1, 2, 3, 4, 5, 6, 7, 8, 9, 10, 11, 12, 13, 14, 15] rfl)
                            · rw [if_neg c74] at hF
                              refine lv_iload hx hb dX9_guess_256 (lv_at hl 6 rfl) ?_
                              obtain ⟨y83, hy83, hF⟩ := bnd_some hF
                              have J83 : ∀ (H : Heap) (locs : List Loc) (ls : Array Slot), va_P D classes (wld ct ad G y83) H → va_D A (wld ct ad G y83) → va_S A s.heap H locs → lv_has ls 16 [(15, .int x21), (14, .int y16), (13, .int y14), (12, .int y12), (11, .int y10.1), (10, .int y6.2), (9, .int y4.2), (8, .int y2.2), (7, .int y1.2), (0, .ref (ad a)), (1, .int p0), (2, .int p1), (3, .int p2), (4, .int p3), (5, .int p4), (6, .int p5)] → W p l e (headSpec wuX9_guess ({ frames := 1, cells := 0, slots := 0, locals := 34 })).room s m ([.ref (ad a), .int p0, .int p1, .int p2, .int p3, .int p4, .int p5] : List Value).toArray below meth c H locs 0 0 (MQ below (va_Qv (fun (_ : Unit) => True) (fun _ t => kE D ct ad G A y t) A) ([.ref (ad a), .int p0, .int p1, .int p2, .int p3, .int p4, .int p5] : List Value).toArray s 0 0 A) (F0 m 318 ls []) := by
                                intro H locs ls hP hD hS hl
                                obtain rfl := Option.some.inj hF
                                exact J73 _ _ _ hP hD hS (lv_sub hl [0, 1, 2, 3, 4, 5, 6, 7, 8, 9, 10, 11, 12, 13, 14, 15] rfl)
                              clear hF
                              have hF := hy83
                              clear hy83
                              refine lv_if_lt (tgt := 271) hx hb dX9_guess_258 (by decide) (fun c84 => ?_) (fun c84 => ?_)
                              · rw [if_pos c84] at hF
                                refine lv_iload hx hb dX9_guess_271 (lv_at hl 0 rfl) ?_
                                refine lv_iconst (v := (1 : Int32)) hx hb dX9_guess_273 (by decide) ?_
                                obtain ⟨y85, hy85, hF⟩ := bnd_some hF
                                have J85 : ∀ (H : Heap) (locs : List Loc) (ls : Array Slot), va_P D classes (wld ct ad G y85) H → va_D A (wld ct ad G y85) → va_S A s.heap H locs → lv_has ls 16 [(15, .int x21), (14, .int y16), (13, .int y14), (12, .int y12), (11, .int y10.1), (10, .int y6.2), (9, .int y4.2), (8, .int y2.2), (7, .int y1.2), (0, .ref (ad a)), (1, .int p0), (2, .int p1), (3, .int p2), (4, .int p3), (5, .int p4), (6, .int p5)] → W p l e (headSpec wuX9_guess ({ frames := 1, cells := 0, slots := 0, locals := 34 })).room s m ([.ref (ad a), .int p0, .int p1, .int p2, .int p3, .int p4, .int p5] : List Value).toArray below meth c H locs 0 0 (MQ below (va_Qv (fun (_ : Unit) => True) (fun _ t => kE D ct ad G A y t) A) ([.ref (ad a), .int p0, .int p1, .int p2, .int p3, .int p4, .int p5] : List Value).toArray s 0 0 A) (F0 m 318 ls []) := by
                                  intro H locs ls hP hD hS hl
                                  obtain rfl := Option.some.inj hF
                                  exact J83 _ _ _ hP hD hS (lv_sub hl [0, 1, 2, 3, 4, 5, 6, 7, 8, 9, 10, 11, 12, 13, 14, 15] rfl)
                                clear hF
                                have hF := hy85
                                clear hy85
                                refine lv_icmp_ne (tgt := 307) hx hb dX9_guess_274 (by decide) (fun c86 => ?_) (fun c86 => ?_)
                                · rw [if_neg c86] at hF
                                  refine lv_aload_n hx hb dX9_guess_307 rfl (lv_at hl 9 rfl) ?_
                                  refine lv_iload_n hx hb dX9_guess_308 rfl (lv_at hl 11 rfl) ?_
                                  refine lv_iload hx hb dX9_guess_309 (lv_at hl 6 rfl) ?_
                                  refine lv_iload hx hb dX9_guess_311 (lv_at hl 5 rfl) ?_
                                  refine lv_iload hx hb dX9_guess_313 (lv_at hl 4 rfl) ?_
                                  obtain ⟨y87, hy87, hF⟩ := bnd_some hF
                                  have hf9 := wA_in hD hA9 hS
                                  refine va_callv (va_runV (As := [.int p1, .int y4.2, .int y6.2, .int y10.1]) (rest := []) ⟨hx, hb, hml, hown, hts⟩ (kX9_adoptMedian l D ct ad Z G y15.1 H.size a p1 y4.2 y6.2 y10.1 y87 hc hk hy87) (cwV 4 hts gX9_guess_X9_adoptMedian rfl rfl rfl (by decide +kernel) ⟨Nat.le_of_ble_eq_true rfl, Nat.le_of_ble_eq_true rfl⟩) ⟨fun a U g mk q => by obtain ⟨q0, q1, qP, qK, qD, qZ, qN⟩ := q; exact ⟨q0, q1, qP, va_K.moved (u := U) (U := U.calling g mk a) (Vm.Alike.refl U.vm) qK, qD, sF.moved (u := U) (U := U.calling g mk a) (Vm.Alike.refl U.vm) qZ, nF.same rfl qN⟩, va_recv hK hP (ci := 9) (q0 := a) rfl (wld_o ct ad G y15.1 hc hk (by decide)), fun U hU hW => ⟨rfl, by rw [hU], by rw [hU]; exact hP, va_K.moved hW.alike hK, hD.weaken (fun _ _ _ _ => trivial), by rw [hU]; exact ((hZ.kept hS.2.1).narrow hf9).moved hW.alike, hN.warm hW⟩⟩ rfl rfl hl.1 rfl (lv_room (Nat.le_of_ble_eq_true rfl)) dX9_guess_315 ⟨(Nat.zero_le _), (Nat.zero_le _)⟩) hS (fun q _ h => hf9 q h) hf9 (fun u t H locs ht hvm hw hB hz1 hk1 hS => ?_)
                                  obtain ⟨hP, hK9, hD9⟩ := hB
                                  rw [ht] at hP
                                  have hD := hD9.weaken (fun _ q _ h => hf9 q.1 h)
                                  obtain rfl := Option.some.inj hF
                                  exact J85 _ _ _ hP hD hS (lv_sub hl [0, 1, 2, 3, 4, 5, 6, 7, 8, 9, 10, 11, 12, 13, 14, 15] rfl)
                                · rw [if_pos c86] at hF
                                  refine lv_aload_n hx hb dX9_guess_277 rfl (lv_at hl 9 rfl) ?_
                                  refine lv_iload_n hx hb dX9_guess_278 rfl (lv_at hl 11 rfl) ?_
                                  refine lv_iload hx hb dX9_guess_279 (lv_at hl 3 rfl) ?_
                                  obtain ⟨y88, hy88, hF⟩ := bnd_some hF
                                  have J88 : ∀ (H : Heap) (locs : List Loc) (ls : Array Slot), va_P D classes (wld ct ad G y15.1) H → va_D A (wld ct ad G y15.1) → va_S A s.heap H locs → lv_has ls 16 [(15, .int x21), (14, .int y16), (13, .int y14), (12, .int y12), (11, .int y10.1), (10, .int y6.2), (9, .int y4.2), (8, .int y2.2), (7, .int y1.2), (0, .ref (ad a)), (1, .int p0), (2, .int p1), (3, .int p2), (4, .int p3), (5, .int p4), (6, .int p5)] → W p l e (headSpec wuX9_guess ({ frames := 1, cells := 0, slots := 0, locals := 34 })).room s m ([.ref (ad a), .int p0, .int p1, .int p2, .int p3, .int p4, .int p5] : List Value).toArray below meth c H locs 0 0 (MQ below (va_Qv (fun (_ : Unit) => True) (fun _ t => kE D ct ad G A y t) A) ([.ref (ad a), .int p0, .int p1, .int p2, .int p3, .int p4, .int p5] : List Value).toArray s 0 0 A) (F0 m 301 ls [.int y88, .int p1, .ref (ad a)]) := by
                                    intro H locs ls hP hD hS hl
                                    obtain ⟨y89, hy89, hF⟩ := bnd_some hF
                                    have hf9 := wA_in hD hA9 hS
                                    refine va_callv (va_runV (As := [.int p1, .int y88]) (rest := []) ⟨hx, hb, hml, hown, hts⟩ (kX9_adopt l D ct ad Z G y15.1 H.size a p1 y88 y89 hc hk hy89) (cwV 2 hts gX9_guess_X9_adopt rfl rfl rfl (by decide +kernel) ⟨Nat.le_of_ble_eq_true rfl, Nat.le_of_ble_eq_true rfl⟩) ⟨fun a U g mk q => by obtain ⟨q0, q1, qP, qK, qD, qZ, qN⟩ := q; exact ⟨q0, q1, qP, va_K.moved (u := U) (U := U.calling g mk a) (Vm.Alike.refl U.vm) qK, qD, sF.moved (u := U) (U := U.calling g mk a) (Vm.Alike.refl U.vm) qZ, nF.same rfl qN⟩, va_recv hK hP (ci := 9) (q0 := a) rfl (wld_o ct ad G y15.1 hc hk (by decide)), fun U hU hW => ⟨rfl, by rw [hU], by rw [hU]; exact hP, va_K.moved hW.alike hK, hD.weaken (fun _ _ _ _ => trivial), by rw [hU]; exact ((hZ.kept hS.2.1).narrow hf9).moved hW.alike, hN.warm hW⟩⟩ rfl rfl hl.1 rfl (lv_room (Nat.le_of_ble_eq_true rfl)) dX9_guess_301 ⟨(Nat.zero_le _), (Nat.zero_le _)⟩) hS (fun q _ h => hf9 q h) hf9 (fun u t H locs ht hvm hw hB hz1 hk1 hS => ?_)
                                    obtain ⟨hP, hK9, hD9⟩ := hB
                                    rw [ht] at hP
                                    have hD := hD9.weaken (fun _ q _ h => hf9 q.1 h)
                                    refine lv_goto (tgt := 318) hx hb dX9_guess_304 (by decide) ?_
                                    obtain rfl := Option.some.inj hF
                                    exact J85 _ _ _ hP hD hS (lv_sub hl [0, 1, 2, 3, 4, 5, 6, 7, 8, 9, 10, 11, 12, 13, 14, 15] rfl)
                                  clear hF
                                  have hF := hy88
                                  clear hy88
                                  refine lv_if_eq (tgt := 289) hx hb dX9_guess_281 (by decide) (fun c90 => ?_) (fun c90 => ?_)
                                  · rw [if_pos c90] at hF
                                    refine lv_iload hx hb dX9_guess_289 (lv_at hl 2 rfl) ?_
                                    obtain ⟨y91, hy91, hF⟩ := bnd_some hF
                                    have J91 : ∀ (H : Heap) (locs : List Loc) (ls : Array Slot), va_P D classes (wld ct ad G y15.1) H → va_D A (wld ct ad G y15.1) → va_S A s.heap H locs → lv_has ls 16 [(15, .int x21), (14, .int y16), (13, .int y14), (12, .int y12), (11, .int y10.1), (10, .int y6.2), (9, .int y4.2), (8, .int y2.2), (7, .int y1.2), (0, .ref (ad a)), (1, .int p0), (2, .int p1), (3, .int p2), (4, .int p3), (5, .int p4), (6, .int p5)] → W p l e (headSpec wuX9_guess ({ frames := 1, cells := 0, slots := 0, locals := 34 })).room s m ([.ref (ad a), .int p0, .int p1, .int p2, .int p3, .int p4, .int p5] : List Value).toArray below meth c H locs 0 0 (MQ below (va_Qv (fun (_ : Unit) => True) (fun _ t => kE D ct ad G A y t) A) ([.ref (ad a), .int p0, .int p1, .int p2, .int p3, .int p4, .int p5] : List Value).toArray s 0 0 A) (F0 m 301 ls [.int y91, .int p1, .ref (ad a)]) := by
                                      intro H locs ls hP hD hS hl
                                      obtain rfl := Option.some.inj hF
                                      exact J88 _ _ _ hP hD hS (lv_sub hl [0, 1, 2, 3, 4, 5, 6, 7, 8, 9, 10, 11, 12, 13, 14, 15] rfl)
                                    clear hF
                                    have hF := hy91
                                    clear hy91
                                    refine lv_if_eq (tgt := 299) hx hb dX9_guess_291 (by decide) (fun c92 => ?_) (fun c92 => ?_)
                                    · rw [if_pos c92] at hF
                                      refine lv_iload hx hb dX9_guess_299 (lv_at hl 4 rfl) ?_
                                      obtain rfl := Option.some.inj hF
                                      exact J91 _ _ _ hP hD hS (lv_sub hl [0, 1, 2, 3, 4, 5, 6, 7, 8, 9, 10, 11, 12, 13, 14, 15] rfl)
                                    · rw [if_neg c92] at hF
                                      refine lv_iload hx hb dX9_guess_294 (lv_at hl 5 rfl) ?_
                                      refine lv_goto (tgt := 301) hx hb dX9_guess_296 (by decide) ?_
                                      obtain rfl := Option.some.inj hF
                                      exact J91 _ _ _ hP hD hS (lv_sub hl [0, 1, 2, 3, 4, 5, 6, 7, 8, 9, 10, 11, 12, 13, 14, 15] rfl)
                                  · rw [if_neg c90] at hF
                                    refine lv_iload hx hb dX9_guess_284 (lv_at hl 6 rfl) ?_
                                    refine lv_goto (tgt := 301) hx hb dX9_guess_286 (by decide) ?_
                                    obtain rfl := Option.some.inj hF
                                    exact J88 _ _ _ hP hD hS (lv_sub hl [0, 1, 2, 3, 4, 5, 6, 7, 8, 9, 10, 11, 12, 13, 14, 15] rfl)
                              · rw [if_neg c84] at hF
                                refine lv_aload_n hx hb dX9_guess_261 rfl (lv_at hl 9 rfl) ?_
                                refine lv_iload_n hx hb dX9_guess_262 rfl (lv_at hl 11 rfl) ?_
                                refine lv_iload hx hb dX9_guess_263 (lv_at hl 6 rfl) ?_
                                obtain ⟨y93, hy93, hF⟩ := bnd_some hF
                                have hf9 := wA_in hD hA9 hS
                                refine va_callv (va_runV (As := [.int p1, .int y4.2]) (rest := []) ⟨hx, hb, hml, hown, hts⟩ (kX9_adopt l D ct ad Z G y15.1 H.size a p1 y4.2 y93 hc hk hy93) (cwV 2 hts gX9_guess_X9_adopt rfl rfl rfl (by decide +kernel) ⟨Nat.le_of_ble_eq_true rfl, Nat.le_of_ble_eq_true rfl⟩) ⟨fun a U g mk q => by obtain ⟨q0, q1, qP, qK, qD, qZ, qN⟩ := q; exact ⟨q0, q1, qP, va_K.moved (u := U) (U := U.calling g mk a) (Vm.Alike.refl U.vm) qK, qD, sF.moved (u := U) (U := U.calling g mk a) (Vm.Alike.refl U.vm) qZ, nF.same rfl qN⟩, va_recv hK hP (ci := 9) (q0 := a) rfl (wld_o ct ad G y15.1 hc hk (by decide)), fun U hU hW => ⟨rfl, by rw [hU], by rw [hU]; exact hP, va_K.moved hW.alike hK, hD.weaken (fun _ _ _ _ => trivial), by rw [hU]; exact ((hZ.kept hS.2.1).narrow hf9).moved hW.alike, hN.warm hW⟩⟩ rfl rfl hl.1 rfl (lv_room (Nat.le_of_ble_eq_true rfl)) dX9_guess_265 ⟨(Nat.zero_le _), (Nat.zero_le _)⟩) hS (fun q _ h => hf9 q h) hf9 (fun u t H locs ht hvm hw hB hz1 hk1 hS => ?_)
                                obtain ⟨hP, hK9, hD9⟩ := hB
                                rw [ht] at hP
                                have hD := hD9.weaken (fun _ q _ h => hf9 q.1 h)
                                refine lv_goto (tgt := 318) hx hb dX9_guess_268 (by decide) ?_
                                obtain rfl := Option.some.inj hF
                                exact J83 _ _ _ hP hD hS (lv_sub hl [0, 1, 2, 3, 4, 5, 6, 7, 8, 9, 10, 11, 12, 13, 14, 15] rfl)
                        · rw [if_neg c62] at hF
                          refine lv_aload_n hx hb dX9_guess_236 rfl (lv_at hl 9 rfl) ?_
                          refine lv_iload_n hx hb dX9_guess_237 rfl (lv_at hl 11 rfl) ?_
                          refine lv_iload hx hb dX9_guess_238 (lv_at hl 4 rfl) ?_
                          obtain ⟨y94, hy94, hF⟩ := bnd_some hF
                          have hf9 := wA_in hD hA9 hS
                          refine va_callv (va_runV (As := [.int p1, .int y10.1]) (rest := []) ⟨hx, hb, hml, hown, hts⟩ (kX9_adopt l D ct ad Z G y15.1 H.size a p1 y10.1 y94 hc hk hy94) (cwV 2 hts gX9_guess_X9_adopt rfl rfl rfl (by decide +kernel) ⟨Nat.le_of_ble_eq_true rfl, Nat.le_of_ble_eq_true rfl⟩) ⟨fun a U g mk q => by obtain ⟨q0, q1, qP, qK, qD, qZ, qN⟩ := q; exact ⟨q0, q1, qP, va_K.moved (u := U) (U := U.calling g mk a) (Vm.Alike.refl U.vm) qK, qD, sF.moved (u := U) (U := U.calling g mk a) (Vm.Alike.refl U.vm) qZ, nF.same rfl qN⟩, va_recv hK hP (ci := 9) (q0 := a) rfl (wld_o ct ad G y15.1 hc hk (by decide)), fun U hU hW => ⟨rfl, by rw [hU], by rw [hU]; exact hP, va_K.moved hW.alike hK, hD.weaken (fun _ _ _ _ => trivial), by rw [hU]; exact ((hZ.kept hS.2.1).narrow hf9).moved hW.alike, hN.warm hW⟩⟩ rfl rfl hl.1 rfl (lv_room (Nat.le_of_ble_eq_true rfl)) dX9_guess_240 ⟨(Nat.zero_le _), (Nat.zero_le _)⟩) hS (fun q _ h => hf9 q h) hf9 (fun u t H locs ht hvm hw hB hz1 hk1 hS => ?_)
                          obtain ⟨hP, hK9, hD9⟩ := hB
                          rw [ht] at hP
                          have hD := hD9.weaken (fun _ q _ h => hf9 q.1 h)
                          refine lv_goto (tgt := 318) hx hb dX9_guess_243 (by decide) ?_
                          obtain rfl := Option.some.inj hF
                          exact J61 _ _ _ hP hD hS (lv_sub hl [0, 1, 2, 3, 4, 5, 6, 7, 8, 9, 10, 11, 12, 13, 14, 15] rfl)
                    · rw [if_neg c27] at hF
                      refine lv_aload_n hx hb dX9_guess_215 rfl (lv_at hl 9 rfl) ?_
                      refine lv_iload_n hx hb dX9_guess_216 rfl (lv_at hl 11 rfl) ?_
                      refine lv_iload hx hb dX9_guess_217 (lv_at hl 6 rfl) ?_
                      obtain ⟨y95, hy95, hF⟩ := bnd_some hF
                      have hf9 := wA_in hD hA9 hS
                      refine va_callv (va_runV (As := [.int p1, .int y4.2]) (rest := []) ⟨hx, hb, hml, hown, hts⟩ (kX9_adopt l D ct ad Z G y15.1 H.size a p1 y4.2 y95 hc hk hy95) (cwV 2 hts gX9_guess_X9_adopt rfl rfl rfl (by decide +kernel) ⟨Nat.le_of_ble_eq_true rfl, Nat.le_of_ble_eq_true rfl⟩) ⟨fun a U g mk q => by obtain ⟨q0, q1, qP, qK, qD, qZ, qN⟩ := q; exact ⟨q0, q1, qP, va_K.moved (u := U) (U := U.calling g mk a) (Vm.Alike.refl U.vm) qK, qD, sF.moved (u := U) (U := U.calling g mk a) (Vm.Alike.refl U.vm) qZ, nF.same rfl qN⟩, va_recv hK hP (ci := 9) (q0 := a) rfl (wld_o ct ad G y15.1 hc hk (by decide)), fun U hU hW => ⟨rfl, by rw [hU], by rw [hU]; exact hP, va_K.moved hW.alike hK, hD.weaken (fun _ _ _ _ => trivial), by rw [hU]; exact ((hZ.kept hS.2.1).narrow hf9).moved hW.alike, hN.warm hW⟩⟩ rfl rfl hl.1 rfl (lv_room (Nat.le_of_ble_eq_true rfl)) dX9_guess_219 ⟨(Nat.zero_le _), (Nat.zero_le _)⟩) hS (fun q _ h => hf9 q h) hf9 (fun u t H locs ht hvm hw hB hz1 hk1 hS => ?_)
                      obtain ⟨hP, hK9, hD9⟩ := hB
                      rw [ht] at hP
                      have hD := hD9.weaken (fun _ q _ h => hf9 q.1 h)
                      refine lv_goto (tgt := 318) hx hb dX9_guess_222 (by decide) ?_
                      obtain rfl := Option.some.inj hF
                      exact J26 _ _ _ hP hD hS (lv_sub hl [0, 1, 2, 3, 4, 5, 6, 7, 8, 9, 10, 11, 12, 13, 14, 15] rfl)
                  · rw [if_neg c25] at hF
                    refine lv_iload hx hb dX9_guess_204 (lv_at hl 15 rfl) ?_
                    refine lv_iconst (v := (3 : Int32)) hx hb dX9_guess_206 (by decide) ?_
                    obtain ⟨y96, hy96, hF⟩ := bnd_some hF
                    have J96 : ∀ (H : Heap) (locs : List Loc) (ls : Array Slot), va_P D classes (wld ct ad G y96) H → va_D A (wld ct ad G y96) → va_S A s.heap H locs → lv_has ls 16 [(15, .int x21), (14, .int y16), (13, .int y14), (12, .int y12), (11, .int y10.1), (10, .int y6.2), (9, .int y4.2), (8, .int y2.2), (7, .int y1.2), (0, .ref (ad a)), (1, .int p0), (2, .int p1), (3, .int p2), (4, .int p3), (5, .int p4), (6, .int p5)] → W p l e (headSpec wuX9_guess ({ frames := 1, cells := 0, slots := 0, locals := 34 })).room s m ([.ref (ad a), .int p0, .int p1, .int p2, .int p3, .int p4, .int p5] : List Value).toArray below meth c H locs 0 0 (MQ below (va_Qv (fun (_ : Unit) => True) (fun _ t => kE D ct ad G A y t) A) ([.ref (ad a), .int p0, .int p1, .int p2, .int p3, .int p4, .int p5] : List Value).toArray s 0 0 A) (F0 m 318 ls []) := by
                      intro H locs ls hP hD hS hl
                      obtain rfl := Option.some.inj hF
                      exact J24 _ _ _ hP hD hS (lv_sub hl [0, 1, 2, 3, 4, 5, 6, 7, 8, 9, 10, 11, 12, 13, 14, 15] rfl)
                    clear hF
                    have hF := hy96
                    clear hy96
                    refine lv_icmp_ne (tgt := 225) hx hb dX9_guess_207 (by decide) (fun c97 => ?_) (fun c97 => ?_)
                    · rw [if_neg c97] at hF
                      refine lv_iload hx hb dX9_guess_225 (lv_at hl 15 rfl) ?_
                      refine lv_iconst (v := (4 : Int32)) hx hb dX9_guess_227 (by decide) ?_
                      obtain ⟨y98, hy98, hF⟩ := bnd_some hF
                      have J98 : ∀ (H : Heap) (locs : List Loc) (ls : Array Slot), va_P D classes (wld ct ad G y98) H → va_D A (wld ct ad G y98) → va_S A s.heap H locs → lv_has ls 16 [(15, .int x21), (14, .int y16), (13, .int y14), (12, .int y12), (11, .int y10.1), (10, .int y6.2), (9, .int y4.2), (8, .int y2.2), (7, .int y1.2), (0, .ref (ad a)), (1, .int p0), (2, .int p1), (3, .int p2), (4, .int p3), (5, .int p4), (6, .int p5)] → W p l e (headSpec wuX9_guess ({ frames := 1, cells := 0, slots := 0, locals := 34 })).room s m ([.ref (ad a), .int p0, .int p1, .int p2, .int p3, .int p4, .int p5] : List Value).toArray below meth c H locs 0 0 (MQ below (va_Qv (fun (_ : Unit) => True) (fun _ t => kE D ct ad G A y t) A) ([.ref (ad a), .int p0, .int p1, .int p2, .int p3, .int p4, .int p5] : List Value).toArray s 0 0 A) (F0 m 318 ls []) := by
                        intro H locs ls hP hD hS hl
                        obtain rfl := Option.some.inj hF
                        exact J96 _ _ _ hP hD hS (lv_sub hl [0, 1, 2, 3, 4, 5, 6, 7, 8, 9, 10, 11, 12, 13, 14, 15] rfl)
                      clear hF
                      have hF := hy98
                      clear hy98
                      refine lv_icmp_ne (tgt := 246) hx hb dX9_guess_228 (by decide) (fun c99 => ?_) (fun c99 => ?_)
                      · rw [if_neg c99] at hF
                        refine lv_iload hx hb dX9_guess_246 (lv_at hl 5 rfl) ?_
                        obtain ⟨y100, hy100, hF⟩ := bnd_some hF
                        have J100 : ∀ (H : Heap) (locs : List Loc) (ls : Array Slot), va_P D classes (wld ct ad G y100) H → va_D A (wld ct ad G y100) → va_S A s.heap H locs → lv_has ls 16 [(15, .int x21), (14, .int y16), (13, .int y14), (12, .int y12), (11, .int y10.1), (10, .int y6.2), (9, .int y4.2), (8, .int y2.2), (7, .int y1.2), (0, .ref (ad a)), (1, .int p0), (2, .int p1), (3, .int p2), (4, .int p3), (5, .int p4), (6, .int p5)] → W p l e (headSpec wuX9_guess ({ frames := 1, cells := 0, slots := 0, locals := 34 })).room s m ([.ref (ad a), .int p0, .int p1, .int p2, .int p3, .int p4, .int p5] : List Value).toArray below meth c H locs 0 0 (MQ below (va_Qv (fun (_ : Unit) => True) (fun _ t => kE D ct ad G A y t) A) ([.ref (ad a), .int p0, .int p1, .int p2, .int p3, .int p4, .int p5] : List Value).toArray s 0 0 A) (F0 m 318 ls []) := by
                          intro H locs ls hP hD hS hl
                          obtain rfl := Option.some.inj hF
                          exact J98 _ _ _ hP hD hS (lv_sub hl [0, 1, 2, 3, 4, 5, 6, 7, 8, 9, 10, 11, 12, 13, 14, 15] rfl)
                        clear hF
                        have hF := hy100
                        clear hy100
                        refine lv_if_ge (tgt := 271) hx hb dX9_guess_248 (by decide) (fun c101 => ?_) (fun c101 => ?_)
                        · rw [if_pos c101] at hF
                          refine lv_iload hx hb dX9_guess_271 (lv_at hl 0 rfl) ?_
                          refine lv_iconst (v := (1 : Int32)) hx hb dX9_guess_273 (by decide) ?_
                          obtain ⟨y102, hy102, hF⟩ := bnd_some hF
                          have J102 : ∀ (H : Heap) (locs : List Loc) (ls : Array Slot), va_P D classes (wld ct ad G y102) H → va_D A (wld ct ad G y102) → va_S A s.heap H locs → lv_has ls 16 [(15, .int x21), (14, .int y16), (13, .int y14), (12, .int y12), (11, .int y10.1), (10, .int y6.2), (9, .int y4.2), (8, .int y2.2), (7, .int y1.2), (0, .ref (ad a)), (1, .int p0), (2, .int p1), (3, .int p2), (4, .int p3), (5, .int p4), (6, .int p5)] → W p l e (headSpec wuX9_guess ({ frames := 1, cells := 0, slots := 0, locals := 34 })).room s m ([.ref (ad a), .int p0, .int p1, .int p2, .int p3, .int p4, .int p5] : List Value).toArray below meth c H locs 0 0 (MQ below (va_Qv (fun (_ : Unit) => True) (fun _ t => kE D ct ad G A y t) A) ([.ref (ad a), .int p0, .int p1, .int p2, .int p3, .int p4, .int p5] : List Value).toArray s 0 0 A) (F0 m 318 ls []) := by
                            intro H locs ls hP hD hS hl
                            obtain rfl := Option.some.inj hF
                            exact J100 _ _ _ hP hD hS (lv_sub hl [0, 1, 2, 3, 4, 5, 6, 7, 8, 9, 10, 11, 12, 13, 14, 15] rfl)
                          clear hF
                          have hF := hy102
                          clear hy102
                          refine lv_icmp_ne (tgt := 307) hx hb dX9_guess_274 (by decide) (fun c103 => ?_) (fun c103 => ?_)
                          · rw [if_neg c103] at hF
                            refine lv_aload_n hx hb dX9_guess_307 rfl (lv_at hl 9 rfl) ?_
                            refine lv_iload_n hx hb dX9_guess_308 rfl (lv_at hl 11 rfl) ?_
                            refine lv_iload hx hb dX9_guess_309 (lv_at hl 6 rfl) ?_
                            refine lv_iload hx hb dX9_guess_311 (lv_at hl 5 rfl) ?_
                            refine lv_iload hx hb dX9_guess_313 (lv_at hl 4 rfl) ?_
                            obtain ⟨y104, hy104, hF⟩ := bnd_some hF
                            have hf9 := wA_in hD hA9 hS
                            refine va_callv (va_runV (As := [.int p1, .int y4.2, .int y6.2, .int y10.1]) (rest := []) ⟨hx, hb, hml, hown, hts⟩ (kX9_adoptMedian l D ct ad Z G y15.1 H.size a p1 y4.2 y6.2 y10.1 y104 hc hk hy104) (cwV 4 hts gX9_guess_X9_adoptMedian rfl rfl rfl (by decide +kernel) ⟨Nat.le_of_ble_eq_true rfl, Nat.le_of_ble_eq_true rfl⟩) ⟨fun a U g mk q => by obtain ⟨q0, q1, qP, qK, qD, qZ, qN⟩ := q; exact ⟨q0, q1, qP, va_K.moved (u := U) (U := U.calling g mk a) (Vm.Alike.refl U.vm) qK, qD, sF.moved (u := U) (U := U.calling g mk a) (Vm.Alike.refl U.vm) qZ, nF.same rfl qN⟩, va_recv hK hP (ci := 9) (q0 := a) rfl (wld_o ct ad G y15.1 hc hk (by decide)), fun U hU hW => ⟨rfl, by rw [hU], by rw [hU]; exact hP, va_K.moved hW.alike hK, hD.weaken (fun _ _ _ _ => trivial), by rw [hU]; exact ((hZ.kept hS.2.1).narrow hf9).moved hW.alike, hN.warm hW⟩⟩ rfl rfl hl.1 rfl (lv_room (Nat.le_of_ble_eq_true rfl)) dX9_guess_315 ⟨(Nat.zero_le _), (Nat.zero_le _)⟩) hS (fun q _ h => hf9 q h) hf9 (fun u t H locs ht hvm hw hB hz1 hk1 hS => ?_)
                            obtain ⟨hP, hK9, hD9⟩ := hB
                            rw [ht] at hP
                            have hD := hD9.weaken (fun _ q _ h => hf9 q.1 h)
                            obtain rfl := Option.some.inj hF
                            exact J102 _ _ _ hP hD hS (lv_sub hl [0, 1, 2, 3, 4, 5, 6, 7, 8, 9, 10, 11, 12, 13, 14, 15] rfl)
                          · rw [if_pos c103] at hF
                            refine lv_aload_n hx hb dX9_guess_277 rfl (lv_at hl 9 rfl) ?_
                            refine lv_iload_n hx hb dX9_guess_278 rfl (lv_at hl 11 rfl) ?_
                            refine lv_iload hx hb dX9_guess_279 (lv_at hl 3 rfl) ?_
                            obtain ⟨y105, hy105, hF⟩ := bnd_some hF
                            have J105 : ∀ (H : Heap) (locs : List Loc) (ls : Array Slot), va_P D classes (wld ct ad G y15.1) H → va_D A (wld ct ad G y15.1) → va_S A s.heap H locs → lv_has ls 16 [(15, .int x21), (14, .int y16), (13, .int y14), (12, .int y12), (11, .int y10.1), (10, .int y6.2), (9, .int y4.2), (8, .int y2.2), (7, .int y1.2), (0, .ref (ad a)), (1, .int p0), (2, .int p1), (3, .int p2), (4, .int p3), (5, .int p4), (6, .int p5)] → W p l e (headSpec wuX9_guess ({ frames := 1, cells := 0, slots := 0, locals := 34 })).room s m ([.ref (ad a), .int p0, .int p1, .int p2, .int p3, .int p4, .int p5] : List Value).toArray below meth c H locs 0 0 (MQ below (va_Qv (fun (_ : Unit) => True) (fun _ t => kE D ct ad G A y t) A) ([.ref (ad a), .int p0, .int p1, .int p2, .int p3, .int p4, .int p5] : List Value).toArray s 0 0 A) (F0 m 301 ls [.int y105, .int p1, .ref (ad a)]) := by
                              intro H locs ls hP hD hS hl
                              obtain ⟨y106, hy106, hF⟩ := bnd_some hF
                              have hf9 := wA_in hD hA9 hS
                              refine va_callv (va_runV (As := [.int p1, .int y105]) (rest := []) ⟨hx, hb, hml, hown, hts⟩ (kX9_adopt l D ct ad Z G y15.1 H.size a p1 y105 y106 hc hk hy106) (cwV 2 hts gX9_guess_X9_adopt rfl rfl rfl (by decide +kernel) ⟨Nat.le_of_ble_eq_true rfl, Nat.le_of_ble_eq_true rfl⟩) ⟨fun a U g mk q => by obtain ⟨q0, q1, qP, qK, qD, qZ, qN⟩ := q; exact ⟨q0, q1, qP, va_K.moved (u := U) (U := U.calling g mk a) (Vm.Alike.refl U.vm) qK, qD, sF.moved (u := U) (U := U.calling g mk a) (Vm.Alike.refl U.vm) qZ, nF.same rfl qN⟩, va_recv hK hP (ci := 9) (q0 := a) rfl (wld_o ct ad G y15.1 hc hk (by decide)), fun U hU hW => ⟨rfl, by rw [hU], by rw [hU]; exact hP, va_K.moved hW.alike hK, hD.weaken (fun _ _ _ _ => trivial), by rw [hU]; exact ((hZ.kept hS.2.1).narrow hf9).moved hW.alike, hN.warm hW⟩⟩ rfl rfl hl.1 rfl (lv_room (Nat.le_of_ble_eq_true rfl)) dX9_guess_301 ⟨(Nat.zero_le _), (Nat.zero_le _)⟩) hS (fun q _ h => hf9 q h) hf9 (fun u t H locs ht hvm hw hB hz1 hk1 hS => ?_)
                              obtain ⟨hP, hK9, hD9⟩ := hB
                              rw [ht] at hP
                              have hD := hD9.weaken (fun _ q _ h => hf9 q.1 h)
                              refine lv_goto (tgt := 318) hx hb dX9_guess_304 (by decide) ?_
                              obtain rfl := Option.some.inj hF
                              exact J102 _ _ _ hP hD hS (lv_sub hl [0, 1, 2, 3, 4, 5, 6, 7, 8, 9, 10, 11, 12, 13, 14, 15] rfl)
                            clear hF
                            have hF := hy105
                            clear hy105
                            refine lv_if_eq (tgt := 289) hx hb dX9_guess_281 (by decide) (fun c107 => ?_) (fun c107 => ?_)
                            · rw [if_pos c107] at hF
                              refine lv_iload hx hb dX9_guess_289 (lv_at hl 2 rfl) ?_
                              obtain ⟨y108, hy108, hF⟩ := bnd_some hF
                              have J108 : ∀ (H : Heap) (locs : List Loc) (ls : Array Slot), va_P D classes (wld ct ad G y15.1) H → va_D A (wld ct ad G y15.1) → va_S A s.heap H locs → lv_has ls 16 [(15, .int x21), (14, .int y16), (13, .int y14), (12, .int y12), (11, .int y10.1), (10, .int y6.2), (9, .int y4.2), (8, .int y2.2), (7, .int y1.2), (0, .ref (ad a)), (1, .int p0), (2, .int p1), (3, .int p2), (4, .int p3), (5, .int p4), (6, .int p5)] → W p l e (headSpec wuX9_guess ({ frames := 1, cells := 0, slots := 0, locals := 34 })).room s m ([.ref (ad a), .int p0, .int p1, .int p2, .int p3, .int p4, .int p5] : List Value).toArray below meth c H locs 0 0 (MQ below (va_Qv (fun (_ : Unit) => True) (fun _ t => kE D ct ad G A y t) A) ([.ref (ad a), .int p0, .int p1, .int p2, .int p3, .int p4, .int p5] : List Value).toArray s 0 0 A) (F0 m 301 ls [.int y108, .int p1, .ref (ad a)]) := by
                                intro H locs ls hP hD hS hl
                                obtain rfl := Option.some.inj hF
                                exact J105 _ _ _ hP hD hS (lv_sub hl [0, 1, 2, 3, 4, 5, 6, 7, 8, 9, 10, 11, 12, 13, 14, 15] rfl)
                              clear hF
                              have hF := hy108
                              clear hy108
                              refine lv_if_eq (tgt := 299) hx hb dX9_guess_291 (by decide) (fun c109 => ?_) (fun c109 => ?_)
                              · rw [if_pos c109] at hF
                                refine lv_iload hx hb dX9_guess_299 (lv_at hl 4 rfl) ?_
                                obtain rfl := Option.some.inj hF
                                exact J108 _ _ _ hP hD hS (lv_sub hl [0, 1, 2, 3, 4, 5, 6, 7, 8, 9, 10, 11, 12, 13, 14, 15] rfl)
                              · rw [if_neg c109] at hF
                                refine lv_iload hx hb dX9_guess_294 (lv_at hl 5 rfl) ?_
                                refine lv_goto (tgt := 301) hx hb dX9_guess_296 (by decide) ?_
                                obtain rfl := Option.some.inj hF
                                exact J108 _ _ _ hP hD hS (lv_sub hl [0, 1, 2, 3, 4, 5, 6, 7, 8, 9, 10, 11, 12, 13, 14, 15] rfl)
                            · rw [if_neg c107] at hF
                              refine lv_iload hx hb dX9_guess_284 (lv_at hl 6 rfl) ?_
                              refine lv_goto (tgt := 301) hx hb dX9_guess_286 (by decide) ?_
                              obtain rfl := Option.some.inj hF
                              exact J105 _ _ _ hP hD hS (lv_sub hl [0, 1, 2, 3, 4, 5, 6, 7, 8, 9, 10, 11, 12, 13, 14, 15] rfl)
                        · rw [if_neg c101] at hF
                          refine lv_iload hx hb dX9_guess_251 (lv_at hl 4 rfl) ?_
                          obtain ⟨y110, hy110, hF⟩ := bnd_some hF
                          have J110 : ∀ (H : Heap) (locs : List Loc) (ls : Array Slot), va_P D classes (wld ct ad G y110) H → va_D A (wld ct ad G y110) → va_S A s.heap H locs → lv_has ls 16 [(15, .int x21), (14, .int y16), (13, .int y14), (12, .int y12), (11, .int y10.1), (10, .int y6.2), (9, .int y4.2), (8, .int y2.2), (7, .int y1.2), (0, .ref (ad a)), (1, .int p0), (2, .int p1), (3, .int p2), (4, .int p3), (5, .int p4), (6, .int p5)] → W p l e (headSpec wuX9_guess ({ frames := 1, cells := 0, slots := 0, locals := 34 })).room s m ([.ref (ad a), .int p0, .int p1, .int p2, .int p3, .int p4, .int p5] : List Value).toArray below meth c H locs 0 0 (MQ below (va_Qv (fun (_ : Unit) => True) (fun _ t => kE D ct ad G A y t) A) ([.ref (ad a), .int p0, .int p1, .int p2, .int p3, .int p4, .int p5] : List Value).toArray s 0 0 A) (F0 m 318 ls []) := by
                            intro H locs ls hP hD hS hl
                            obtain rfl := Option.some.inj hF
                            exact J100 _ _ _ hP hD hS (lv_sub hl [0, 1, 2, 3, 4, 5, 6, 7, 8, 9, 10, 11, 12, 13, 14, 15] rfl)
                          clear hF
                          have hF := hy110
                          clear hy110
                          refine lv_if_ge (tgt := 271) hx hb dX9_guess_253 (by decide) (fun c111 => ?_) (fun c111 => ?_)
                          · rw [if_pos c111] at hF
                            refine lv_iload hx hb dX9_guess_271 (lv_at hl 0 rfl) ?_
                            refine lv_iconst (v := (1 : Int32)) hx hb dX9_guess_273 (by decide) ?_
                            obtain ⟨y112, hy112, hF⟩ := bnd_some hF
                            have J112 : ∀ (H : Heap) (locs : List Loc) (ls : Array Slot), va_P D classes (wld ct ad G y112) H → va_D A (wld ct ad G y112) → va_S A s.heap H locs → lv_has ls 16 [(15, .int x21), (14, .int y16), (13, .int y14), (12, .int y12), (11, .int y10.1), (10, .int y6.2), (9, .int y4.2), (8, .int y2.2), (7, .int y1.2), (0, .ref (ad a)), (1, .int p0), (2, .int p1), (3, .int p2), (4, .int p3), (5, .int p4), (6, .int p5)] → W p l e (headSpec wuX9_guess ({ frames := 1, cells := 0, slots := 0, locals := 34 })).room s m ([.ref (ad a), .int p0, .int p1, .int p2, .int p3, .int p4, .int p5] : List Value).toArray below meth c H locs 0 0 (MQ below (va_Qv (fun (_ : Unit) => True) (fun _ t => kE D ct ad G A y t) A) ([.ref (ad a), .int p0, .int p1, .int p2, .int p3, .int p4, .int p5] : List Value).toArray s 0 0 A) (F0 m 318 ls []) := by
                              intro H locs ls hP hD hS hl
                              obtain rfl := Option.some.inj hF
                              exact J110 _ _ _ hP hD hS (lv_sub hl [0, 1, 2, 3, 4, 5, 6, 7, 8, 9, 10, 11, 12, 13, 14, 15] rfl)
                            clear hF
                            have hF := hy112
                            clear hy112
                            refine lv_icmp_ne (tgt := 307) hx hb dX9_guess_274 (by decide) (fun c113 => ?_) (fun c113 => ?_)
                            · rw [if_neg c113] at hF
                              refine lv_aload_n hx hb dX9_guess_307 rfl (lv_at hl 9 rfl) ?_
                              refine lv_iload_n hx hb dX9_guess_308 rfl (lv_at hl 11 rfl) ?_
                              refine lv_iload hx hb dX9_guess_309 (lv_at hl 6 rfl) ?_
                              refine lv_iload hx hb dX9_guess_311 (lv_at hl 5 rfl) ?_
                              refine lv_iload hx hb dX9_guess_313 (lv_at hl 4 rfl) ?_
                              obtain ⟨y114, hy114, hF⟩ := bnd_some hF
                              have hf9 := wA_in hD hA9 hS
                              refine va_callv (va_runV (As := [.int p1, .int y4.2, .int y6.2, .int y10.1]) (rest := []) ⟨hx, hb, hml, hown, hts⟩ (kX9_adoptMedian l D ct ad Z G y15.1 H.size a p1 y4.2 y6.2 y10.1 y114 hc hk hy114) (cwV 4 hts gX9_guess_X9_adoptMedian rfl rfl rfl (by decide +kernel) ⟨Nat.le_of_ble_eq_true rfl, Nat.le_of_ble_eq_true rfl⟩) ⟨fun a U g mk q => by obtain ⟨q0, q1, qP, qK, qD, qZ, qN⟩ := q; exact ⟨q0, q1, qP, va_K.moved (u := U) (U := U.calling g mk a) (Vm.Alike.refl U.vm) qK, qD, sF.moved (u := U) (U := U.calling g mk a) (Vm.Alike.refl U.vm) qZ, nF.same rfl qN⟩, va_recv hK hP (ci := 9) (q0 := a) rfl (wld_o ct ad G y15.1 hc hk (by decide)), fun U hU hW => ⟨rfl, by rw [hU], by rw [hU]; exact hP, va_K.moved hW.alike hK, hD.weaken (fun _ _ _ _ => trivial), by rw [hU]; exact ((hZ.kept hS.2.1).narrow hf9).moved hW.alike, hN.warm hW⟩⟩ rfl rfl hl.1 rfl (lv_room (Nat.le_of_ble_eq_true rfl)) dX9_guess_315 ⟨(Nat.zero_le _), (Nat.zero_le _)⟩) hS (fun q _ h => hf9 q h) hf9 (fun u t H locs ht hvm hw hB hz1 hk1 hS => ?_)
                              obtain ⟨hP, hK9, hD9⟩ := hB
                              rw [ht] at hP
                              have hD := hD9.weaken (fun _ q _ h => hf9 q.1 h)
                              obtain rfl := Option.some.inj hF
                              exact J112 _ _ _ hP hD hS (lv_sub hl [0, 1, 2, 3, 4, 5, 6, 7, 8, 9, 10, 11, 12, 13, 14, 15] rfl)
                            · rw [if_pos c113] at hF
                              refine lv_aload_n hx hb dX9_guess_277 rfl (lv_at hl 9 rfl) ?_
                              refine lv_iload_n hx hb dX9_guess_278 rfl (lv_at hl 11 rfl) ?_
                              refine lv_iload hx hb dX9_guess_279 (lv_at hl 3 rfl) ?_
                              obtain ⟨y115, hy115, hF⟩ := bnd_some hF
                              have J115 : ∀ (H : Heap) (locs : List Loc) (ls : Array Slot), va_P D classes (wld ct ad G y15.1) H → va_D A (wld ct ad G y15.1) → va_S A s.heap H locs → lv_has ls 16 [(15, .int x21), (14, .int y16), (13, .int y14), (12, .int y12), (11, .int y10.1), (10, .int y6.2), (9, .int y4.2), (8, .int y2.2), (7, .int y1.2), (0, .ref (ad a)), (1, .int p0), (2, .int p1), (3, .int p2), (4, .int p3), (5, .int p4), (6, .int p5)] → W p l e (headSpec wuX9_guess ({ frames := 1, cells := 0, slots := 0, locals := 34 })).room s m ([.ref (ad a), .int p0, .int p1, .int p2, .int p3, .int p4, .int p5] : List Value).toArray below meth c H locs 0 0 (MQ below (va_Qv (fun (_ : Unit) => True) (fun _ t => kE D ct ad G A y t) A) ([.ref (ad a), .int p0, .int p1, .int p2, .int p3, .int p4, .int p5] : List Value).toArray s 0 0 A) (F0 m 301 ls [.int y115, .int p1, .ref (ad a)]) := by
                                intro H locs ls hP hD hS hl
                                obtain ⟨y116, hy116, hF⟩ := bnd_some hF
                                have hf9 := wA_in hD hA9 hS
                                refine va_callv (va_runV (As := [.int p1, .int y115]) (rest := []) ⟨hx, hb, hml, hown, hts⟩ (kX9_adopt l D ct ad Z G y15.1 H.size a p1 y115 y116 hc hk hy116) (cwV 2 hts gX9_guess_X9_adopt rfl rfl rfl (by decide +kernel) ⟨Nat.le_of_ble_eq_true rfl, Nat.le_of_ble_eq_true rfl⟩) ⟨fun a U g mk q => by obtain ⟨q0, q1, qP, qK, qD, qZ, qN⟩ := q; exact ⟨q0, q1, qP, va_K.moved (u := U) (U := U.calling g mk a) (Vm.Alike.refl U.vm) qK, qD, sF.moved (u := U) (U := U.calling g mk a) (Vm.Alike.refl U.vm) qZ, nF.same rfl qN⟩, va_recv hK hP (ci := 9) (q0 := a) rfl (wld_o ct ad G y15.1 hc hk (by decide)), fun U hU hW => ⟨rfl, by rw [hU], by rw [hU]; exact hP, va_K.moved hW.alike hK, hD.weaken (fun _ _ _ _ => trivial), by rw [hU]; exact ((hZ.kept hS.2.1).narrow hf9).moved hW.alike, hN.warm hW⟩⟩ rfl rfl hl.1 rfl (lv_room (Nat.le_of_ble_eq_true rfl)) dX9_guess_301 ⟨(Nat.zero_le _), (Nat.zero_le _)⟩) hS (fun q _ h => hf9 q h) hf9 (fun u t H locs ht hvm hw hB hz1 hk1 hS => ?_)
                                obtain ⟨hP, hK9, hD9⟩ := hB
                                rw [ht] at hP
                                have hD := hD9.weaken (fun _ q _ h => hf9 q.1 h)
                                refine lv_goto (tgt := 318) hx hb dX9_guess_304 (by decide) ?_
                                obtain rfl := Option.some.inj hF
                                exact J112 _ _ _ hP hD hS (lv_sub hl [0, 1, 2, 3, 4, 5, 6, 7, 8, 9, 10, 11, 12, 13, 14, 15] rfl)
                              clear hF
                              have hF := hy115
                              clear hy115
                              refine lv_if_eq (tgt := 289) hx hb dX9_guess_281 (by decide) (fun c117 => ?_) (fun c117 => ?_)
                              · rw [if_pos c117] at hF
                                refine lv_iload hx hb dX9_guess_289 (lv_at hl 2 rfl) ?_
                                obtain ⟨y118, hy118, hF⟩ := bnd_some hF
                                have J118 : ∀ (H : Heap) (locs : List Loc) (ls : Array Slot), va_P D classes (wld ct ad G y15.1) H → va_D A (wld ct ad G y15.1) → va_S A s.heap H locs → lv_has ls 16 [(15, .int x21), (14, .int y16), (13, .int y14), (12, .int y12), (11, .int y10.1), (10, .int y6.2), (9, .int y4.2), (8, .int y2.2), (7, .int y1.2), (0, .ref (ad a)), (1, .int p0), (2, .int p1), (3, .int p2), (4, .int p3), (5, .int p4), (6, .int p5)] → W p l e (headSpec wuX9_guess ({ frames := 1, cells := 0, slots := 0, locals := 34 })).room s m ([.ref (ad a), .int p0, .int p1, .int p2, .int p3, .int p4, .int p5] : List Value).toArray below meth c H locs 0 0 (MQ below (va_Qv (fun (_ : Unit) => True) (fun _ t => kE D ct ad G A y t) A) ([.ref (ad a), .int p0, .int p1, .int p2, .int p3, .int p4, .int p5] : List Value).toArray s 0 0 A) (F0 m 301 ls [.int y118, .int p1, .ref (ad a)]) := by
                                  intro H locs ls hP hD hS hl
                                  obtain rfl := Option.some.inj hF
                                  exact J115 _ _ _ hP hD hS (lv_sub hl [0, 1, 2, 3, 4, 5, 6, 7, 8, 9, 10, 11, 12, 13, 14, 15] rfl)
                                clear hF
                                have hF := hy118
                                clear hy118
                                refine lv_if_eq (tgt := 299) hx hb dX9_guess_291 (by decide) (fun c119 => ?_) (fun c119 => ?_)
                                · rw [if_pos c119] at hF
                                  refine lv_iload hx hb dX9_guess_299 (lv_at hl 4 rfl) ?_
                                  obtain rfl := Option.some.inj hF
                                  exact J118 _ _ _ hP hD hS (lv_sub hl [0, 1, 2, 3, 4, 5, 6, 7, 8, 9, 10, 11, 12, 13, 14, 15] rfl)
                                · rw [if_neg c119] at hF
                                  refine lv_iload hx hb dX9_guess_294 (lv_at hl 5 rfl) ?_
                                  refine lv_goto (tgt := 301) hx hb dX9_guess_296 (by decide) ?_
                                  obtain rfl := Option.some.inj hF
                                  exact J118 _ _ _ hP hD hS (lv_sub hl [0, 1, 2, 3, 4, 5, 6, 7, 8, 9, 10, 11, 12, 13, 14, 15] rfl)
                              · rw [if_neg c117] at hF
                                refine lv_iload hx hb dX9_guess_284 (lv_at hl 6 rfl) ?_
                                refine lv_goto (tgt := 301) hx hb dX9_guess_286 (by decide) ?_
                                obtain rfl := Option.some.inj hF
                                exact J115 _ _ _ hP hD hS (lv_sub hl [0, 1, 2, 3, 4, 5, 6, 7, 8, 9, 10, 11, 12, 13, 14, 15] rfl)
                          · rw [if_neg c111] at hF
                            refine lv_iload hx hb dX9_guess_256 (lv_at hl 6 rfl) ?_
                            obtain ⟨y120, hy120, hF⟩ := bnd_some hF
                            have J120 : ∀ (H : Heap) (locs : List Loc) (ls : Array Slot), va_P D classes (wld ct ad G y120) H → va_D A (wld ct ad G y120) → va_S A s.heap H locs → lv_has ls 16 [(15, .int x21), (14, .int y16), (13, .int y14), (12, .int y12), (11, .int y10.1), (10, .int y6.2), (9, .int y4.2), (8, .int y2.2), (7, .int y1.2), (0, .ref (ad a)), (1, .int p0), (2, .int p1), (3, .int p2), (4, .int p3), (5, .int p4), (6, .int p5)] → W p l e (headSpec wuX9_guess ({ frames := 1, cells := 0, slots := 0, locals := 34 })).room s m ([.ref (ad a), .int p0, .int p1, .int p2, .int p3, .int p4, .int p5] : List Value).toArray below meth c H locs 0 0 (MQ below (va_Qv (fun (_ : Unit) => True) (fun _ t => kE D ct ad G A y t) A) ([.ref (ad a), .int p0, .int p1, .int p2, .int p3, .int p4, .int p5] : List Value).toArray s 0 0 A) (F0 m 318 ls []) := by
                              intro H locs ls hP hD hS hl
                              obtain rfl := Option.some.inj hF
                              exact J110 _ _ _ hP hD hS (lv_sub hl [0, 1, 2, 3, 4, 5, 6, 7, 8, 9, 10, 11, 12, 13, 14, 15] rfl)
                            clear hF
                            have hF := hy120
                            clear hy120
                            refine lv_if_lt (tgt := 271) hx hb dX9_guess_258 (by decide) (fun c121 => ?_) (fun c121 => ?_)
                            · rw [if_pos c121] at hF
                              refine lv_iload hx hb dX9_guess_271 (lv_at hl 0 rfl) ?_
                              refine lv_iconst (v := (1 : Int32)) hx hb dX9_guess_273 (by decide) ?_
                              obtain ⟨y122, hy122, hF⟩ := bnd_some hF
                              have J122 : ∀ (H : Heap) (locs : List Loc) (ls : Array Slot), va_P D classes (wld ct ad G y122) H → va_D A (wld ct ad G y122) → va_S A s.heap H locs → lv_has ls 16 [(15, .int x21), (14, .int y16), (13, .int y14), (12, .int y12), (11, .int y10.1), (10, .int y6.2), (9, .int y4.2), (8, .int y2.2), (7, .int y1.2), (0, .ref (ad a)), (1, .int p0), (2, .int p1), (3, .int p2), (4, .int p3), (5, .int p4), (6, .int p5)] → W p l e (headSpec wuX9_guess ({ frames := 1, cells := 0, slots := 0, locals := 34 })).room s m ([.ref (ad a), .int p0, .int p1, .int p2, .int p3, .int p4, .int p5] : List Value).toArray below meth c H locs 0 0 (MQ below (va_Qv (fun (_ : Unit) => True) (fun _ t => kE D ct ad G A y t) A) ([.ref (ad a), .int p0, .int p1, .int p2, .int p3, .int p4, .int p5] : List Value).toArray s 0 0 A) (F0 m 318 ls []) := by
                                intro H locs ls hP hD hS hl
                                obtain rfl := Option.some.inj hF
                                exact J120 _ _ _ hP hD hS (lv_sub hl [0, 1, 2, 3, 4, 5, 6, 7, 8, 9, 10, 11, 12, 13, 14, 15] rfl)
                              clear hF
                              have hF := hy122
                              clear hy122
                              refine lv_icmp_ne (tgt := 307) hx hb dX9_guess_274 (by decide) (fun c123 => ?_) (fun c123 => ?_)
                              · rw [if_neg c123] at hF
                                refine lv_aload_n hx hb dX9_guess_307 rfl (lv_at hl 9 rfl) ?_
                                refine lv_iload_n hx hb dX9_guess_308 rfl (lv_at hl 11 rfl) ?_
                                refine lv_iload hx hb dX9_guess_309 (lv_at hl 6 rfl) ?_
                                refine lv_iload hx hb dX9_guess_311 (lv_at hl 5 rfl) ?_
                                refine lv_iload hx hb dX9_guess_313 (lv_at hl 4 rfl) ?_
                                obtain ⟨y124, hy124, hF⟩ := bnd_some hF
                                have hf9 := wA_in hD hA9 hS
                                refine va_callv (va_runV (As := [.int p1, .int y4.2, .int y6.2, .int y10.1]) (rest := []) ⟨hx, hb, hml, hown, hts⟩ (kX9_adoptMedian l D ct ad Z G y15.1 H.size a p1 y4.2 y6.2 y10.1 y124 hc hk hy124) (cwV 4 hts gX9_guess_X9_adoptMedian rfl rfl rfl (by decide +kernel) ⟨Nat.le_of_ble_eq_true rfl, Nat.le_of_ble_eq_true rfl⟩) ⟨fun a U g mk q => by obtain ⟨q0, q1, qP, qK, qD, qZ, qN⟩ := q; exact ⟨q0, q1, qP, va_K.moved (u := U) (U := U.calling g mk a) (Vm.Alike.refl U.vm) qK, qD, sF.moved (u := U) (U := U.calling g mk a) (Vm.Alike.refl U.vm) qZ, nF.same rfl qN⟩, va_recv hK hP (ci := 9) (q0 := a) rfl (wld_o ct ad G y15.1 hc hk (by decide)), fun U hU hW => ⟨rfl, by rw [hU], by rw [hU]; exact hP, va_K.moved hW.alike hK, hD.weaken (fun _ _ _ _ => trivial), by rw [hU]; exact ((hZ.kept hS.2.1).narrow hf9).moved hW.alike, hN.warm hW⟩⟩ rfl rfl hl.1 rfl (lv_room (Nat.le_of_ble_eq_true rfl)) dX9_guess_315 ⟨(Nat.zero_le _), (Nat.zero_le _)⟩) hS (fun q _ h => hf9 q h) hf9 (fun u t H locs ht hvm hw hB hz1 hk1 hS => ?_)
                                obtain ⟨hP, hK9, hD9⟩ := hB
                                rw [ht] at hP
                                have hD := hD9.weaken (fun _ q _ h => hf9 q.1 h)
                                obtain rfl := Option.some.inj hF
                                exact J122 _ _ _ hP hD hS (lv_sub hl [0, 1, 2, 3, 4, 5, 6, 7, 8, 9, 10, 11, 12, 13, 14, 15] rfl)
                              · rw [if_pos c123] at hF
                                refine lv_aload_n hx hb dX9_guess_277 rfl (lv_at hl 9 rfl) ?_
                                refine lv_iload_n hx hb dX9_guess_278 rfl (lv_at hl 11 rfl) ?_
                                refine lv_iload hx hb dX9_guess_279 (lv_at hl 3 rfl) ?_
                                obtain ⟨y125, hy125, hF⟩ := bnd_some hF
                                have J125 : ∀ (H : Heap) (locs : List Loc) (ls : Array Slot), va_P D classes (wld ct ad G y15.1) H → va_D A (wld ct ad G y15.1) → va_S A s.heap H locs → lv_has ls 16 [(15, .int x21), (14, .int y16), (13, .int y14), (12, .int y12), (11, .int y10.1), (10, .int y6.2), (9, .int y4.2), (8, .int y2.2), (7, .int y1.2), (0, .ref (ad a)), (1, .int p0), (2, .int p1), (3, .int p2), (4, .int p3), (5, .int p4), (6, .int p5)] → W p l e (headSpec wuX9_guess ({ frames := 1, cells := 0, slots := 0, locals := 34 })).room s m ([.ref (ad a), .int p0, .int p1, .int p2, .int p3, .int p4, .int p5] : List Value).toArray below meth c H locs 0 0 (MQ below (va_Qv (fun (_ : Unit) => True) (fun _ t => kE D ct ad G A y t) A) ([.ref (ad a), .int p0, .int p1, .int p2, .int p3, .int p4, .int p5] : List Value).toArray s 0 0 A) (F0 m 301 ls [.int y125, .int p1, .ref (ad a)]) := by
                                  intro H locs ls hP hD hS hl
                                  obtain ⟨y126, hy126, hF⟩ := bnd_some hF
                                  have hf9 := wA_in hD hA9 hS
                                  refine va_callv (va_runV (As := [.int p1, .int y125]) (rest := []) ⟨hx, hb, hml, hown, hts⟩ (kX9_adopt l D ct ad Z G y15.1 H.size a p1 y125 y126 hc hk hy126) (cwV 2 hts gX9_guess_X9_adopt rfl rfl rfl (by decide +kernel) ⟨Nat.le_of_ble_eq_true rfl, Nat.le_of_ble_eq_true rfl⟩) ⟨fun a U g mk q => by obtain ⟨q0, q1, qP, qK, qD, qZ, qN⟩ := q; exact ⟨q0, q1, qP, va_K.moved (u := U) (U := U.calling g mk a) (Vm.Alike.refl U.vm) qK, qD, sF.moved (u := U) (U := U.calling g mk a) (Vm.Alike.refl U.vm) qZ, nF.same rfl qN⟩, va_recv hK hP (ci := 9) (q0 := a) rfl (wld_o ct ad G y15.1 hc hk (by decide)), fun U hU hW => ⟨rfl, by rw [hU], by rw [hU]; exact hP, va_K.moved hW.alike hK, hD.weaken (fun _ _ _ _ => trivial), by rw [hU]; exact ((hZ.kept hS.2.1).narrow hf9).moved hW.alike, hN.warm hW⟩⟩ rfl rfl hl.1 rfl (lv_room (Nat.le_of_ble_eq_true rfl)) dX9_guess_301 ⟨(Nat.zero_le _), (Nat.zero_le _)⟩) hS (fun q _ h => hf9 q h) hf9 (fun u t H locs ht hvm hw hB hz1 hk1 hS => ?_)
                                  obtain ⟨hP, hK9, hD9⟩ := hB
                                  rw [ht] at hP
                                  have hD := hD9.weaken (fun _ q _ h => hf9 q.1 h)
                                  refine lv_goto (tgt := 318) hx hb dX9_guess_304 (by decide) ?_
                                  obtain rfl := Option.some.inj hF
                                  exact J122 _ _ _ hP hD hS (lv_sub hl [0, 1, 2, 3, 4, 5, 6, 7, 8, 9, 10, 11, 12, 13, 14, 15] rfl)
                                clear hF
                                have hF := hy125
                                clear hy125
                                refine lv_if_eq (tgt := 289) hx hb dX9_guess_281 (by decide) (fun c127 => ?_) (fun c127 => ?_)
                                · rw [if_pos c127] at hF
                                  refine lv_iload hx hb dX9_guess_289 (lv_at hl 2 rfl) ?_
                                  obtain ⟨y128, hy128, hF⟩ := bnd_some hF
                                  have J128 : ∀ (H : Heap) (locs : List Loc) (ls : Array Slot), va_P D classes (wld ct ad G y15.1) H → va_D A (wld ct ad G y15.1) → va_S A s.heap H locs → lv_has ls 16 [(15, .int x21), (14, .int y16), (13, .int y14), (12, .int y12), (11, .int y10.1), (10, .int y6.2), (9, .int y4.2), (8, .int y2.2), (7, .int y1.2), (0, .ref (ad a)), (1, .int p0), (2, .int p1), (3, .int p2), (4, .int p3), (5, .int p4), (6, .int p5)] → W p l e (headSpec wuX9_guess ({ frames := 1, cells := 0, slots := 0, locals := 34 })).room s m ([.ref (ad a), .int p0, .int p1, .int p2, .int p3, .int p4, .int p5] : List Value).toArray below meth c H locs 0 0 (MQ below (va_Qv (fun (_ : Unit) => True) (fun _ t => kE D ct ad G A y t) A) ([.ref (ad a), .int p0, .int p1, .int p2, .int p3, .int p4, .int p5] : List Value).toArray s 0 0 A) (F0 m 301 ls [.int y128, .int p1, .ref (ad a)]) := by
                                    intro H locs ls hP hD hS hl
                                    obtain rfl := Option.some.inj hF
                                    exact J125 _ _ _ hP hD hS (lv_sub hl [0, 1, 2, 3, 4, 5, 6, 7, 8, 9, 10, 11, 12, 13, 14, 15] rfl)
                                  clear hF
                                  have hF := hy128
                                  clear hy128
                                  refine lv_if_eq (tgt := 299) hx hb dX9_guess_291 (by decide) (fun c129 => ?_) (fun c129 => ?_)
                                  · rw [if_pos c129] at hF
                                    refine lv_iload hx hb dX9_guess_299 (lv_at hl 4 rfl) ?_
                                    obtain rfl := Option.some.inj hF
                                    exact J128 _ _ _ hP hD hS (lv_sub hl [0, 1, 2, 3, 4, 5, 6, 7, 8, 9, 10, 11, 12, 13, 14, 15] rfl)
                                  · rw [if_neg c129] at hF
                                    refine lv_iload hx hb dX9_guess_294 (lv_at hl 5 rfl) ?_
                                    refine lv_goto (tgt := 301) hx hb dX9_guess_296 (by decide) ?_
                                    obtain rfl := Option.some.inj hF
                                    exact J128 _ _ _ hP hD hS (lv_sub hl [0, 1, 2, 3, 4, 5, 6, 7, 8, 9, 10, 11, 12, 13, 14, 15] rfl)
                                · rw [if_neg c127] at hF
                                  refine lv_iload hx hb dX9_guess_284 (lv_at hl 6 rfl) ?_
                                  refine lv_goto (tgt := 301) hx hb dX9_guess_286 (by decide) ?_
                                  obtain rfl := Option.some.inj hF
                                  exact J125 _ _ _ hP hD hS (lv_sub hl [0, 1, 2, 3, 4, 5, 6, 7, 8, 9, 10, 11, 12, 13, 14, 15] rfl)
                            · rw [if_neg c121] at hF
                              refine lv_aload_n hx hb dX9_guess_261 rfl (lv_at hl 9 rfl) ?_
                              refine lv_iload_n hx hb dX9_guess_262 rfl (lv_at hl 11 rfl) ?_
                              refine lv_iload hx hb dX9_guess_263 (lv_at hl 6 rfl) ?_
                              obtain ⟨y130, hy130, hF⟩ := bnd_some hF
                              have hf9 := wA_in hD hA9 hS
                              refine va_callv (va_runV (As := [.int p1, .int y4.2]) (rest := []) ⟨hx, hb, hml, hown, hts⟩ (kX9_adopt l D ct ad Z G y15.1 H.size a p1 y4.2 y130 hc hk hy130) (cwV 2 hts gX9_guess_X9_adopt rfl rfl rfl (by decide +kernel) ⟨Nat.le_of_ble_eq_true rfl, Nat.le_of_ble_eq_true rfl⟩) ⟨fun a U g mk q => by obtain ⟨q0, q1, qP, qK, qD, qZ, qN⟩ := q; exact ⟨q0, q1, qP, va_K.moved (u := U) (U := U.calling g mk a) (Vm.Alike.refl U.vm) qK, qD, sF.moved (u := U) (U := U.calling g mk a) (Vm.Alike.refl U.vm) qZ, nF.same rfl qN⟩, va_recv hK hP (ci := 9) (q0 := a) rfl (wld_o ct ad G y15.1 hc hk (by decide)), fun U hU hW => ⟨rfl, by rw [hU], by rw [hU]; exact hP, va_K.moved hW.alike hK, hD.weaken (fun _ _ _ _ => trivial), by rw [hU]; exact ((hZ.kept hS.2.1).narrow hf9).moved hW.alike, hN.warm hW⟩⟩ rfl rfl hl.1 rfl (lv_room (Nat.le_of_ble_eq_true rfl)) dX9_guess_265 ⟨(Nat.zero_le _), (Nat.zero_le _)⟩) hS (fun q _ h => hf9 q h) hf9 (fun u t H locs ht hvm hw hB hz1 hk1 hS => ?_)
                              obtain ⟨hP, hK9, hD9⟩ := hB
                              rw [ht] at hP
                              have hD := hD9.weaken (fun _ q _ h => hf9 q.1 h)
                              refine lv_goto (tgt := 318) hx hb dX9_guess_268 (by decide) ?_
                              obtain rfl := Option.some.inj hF
                              exact J120 _ _ _ hP hD hS (lv_sub hl [0, 1, 2, 3, 4, 5, 6, 7, 8, 9, 10, 11, 12, 13, 14, 15] rfl)
                      · rw [if_pos c99] at hF
                        refine lv_iload hx hb dX9_guess_231 (lv_at hl 1 rfl) ?_
                        obtain ⟨y131, hy131, hF⟩ := bnd_some hF
                        have J131 : ∀ (H : Heap) (locs : List Loc) (ls : Array Slot), va_P D classes (wld ct ad G y131) H → va_D A (wld ct ad G y131) → va_S A s.heap H locs → lv_has ls 16 [(15, .int x21), (14, .int y16), (13, .int y14), (12, .int y12), (11, .int y10.1), (10, .int y6.2), (9, .int y4.2), (8, .int y2.2), (7, .int y1.2), (0, .ref (ad a)), (1, .int p0), (2, .int p1), (3, .int p2), (4, .int p3), (5, .int p4), (6, .int p5)] → W p l e (headSpec wuX9_guess ({ frames := 1, cells := 0, slots := 0, locals := 34 })).room s m ([.ref (ad a), .int p0, .int p1, .int p2, .int p3, .int p4, .int p5] : List Value).toArray below meth c H locs 0 0 (MQ below (va_Qv (fun (_ : Unit) => True) (fun _ t => kE D ct ad G A y t) A) ([.ref (ad a), .int p0, .int p1, .int p2, .int p3, .int p4, .int p5] : List Value).toArray s 0 0 A) (F0 m 318 ls []) := by
                          intro H locs ls hP hD hS hl
                          obtain rfl := Option.some.inj hF
                          exact J98 _ _ _ hP hD hS (lv_sub hl [0, 1, 2, 3, 4, 5, 6, 7, 8, 9, 10, 11, 12, 13, 14, 15] rfl)
                        clear hF
                        have hF := hy131
                        clear hy131
                        refine lv_if_eq (tgt := 246) hx hb dX9_guess_233 (by decide) (fun c132 => ?_) (fun c132 => ?_)
                        · rw [if_pos c132] at hF
                          refine lv_iload hx hb dX9_guess_246 (lv_at hl 5 rfl) ?_
                          obtain ⟨y133, hy133, hF⟩ := bnd_some hF
                          have J133 : ∀ (H : Heap) (locs : List Loc) (ls : Array Slot), va_P D classes (wld ct ad G y133) H → va_D A (wld ct ad G y133) → va_S A s.heap H locs → lv_has ls 16 [(15, .int x21), (14, .int y16), (13, .int y14), (12, .int y12), (11, .int y10.1), (10, .int y6.2), (9, .int y4.2), (8, .int y2.2), (7, .int y1.2), (0, .ref (ad a)), (1, .int p0), (2, .int p1), (3, .int p2), (4, .int p3), (5, .int p4), (6, .int p5)] → W p l e (headSpec wuX9_guess ({ frames := 1, cells := 0, slots := 0, locals := 34 })).room s m ([.ref (ad a), .int p0, .int p1, .int p2, .int p3, .int p4, .int p5] : List Value).toArray below meth c H locs 0 0 (MQ below (va_Qv (fun (_ : Unit) => True) (fun _ t => kE D ct ad G A y t) A) ([.ref (ad a), .int p0, .int p1, .int p2, .int p3, .int p4, .int p5] : List Value).toArray s 0 0 A) (F0 m 318 ls []) := by
                            intro H locs ls hP hD hS hl
                            obtain rfl := Option.some.inj hF
                            exact J131 _ _ _ hP hD hS (lv_sub hl [0, 1, 2, 3, 4, 5, 6, 7, 8, 9, 10, 11, 12, 13, 14, 15] rfl)
                          clear hF
                          have hF := hy133
                          clear hy133
                          refine lv_if_ge (tgt := 271) hx hb dX9_guess_248 (by decide) (fun c134 => ?_) (fun c134 => ?_)
                          · rw [if_pos c134] at hF
                            refine lv_iload hx hb dX9_guess_271 (lv_at hl 0 rfl) ?_
                            refine lv_iconst (v := (1 : Int32)) hx hb dX9_guess_273 (by decide) ?_
                            obtain ⟨y135, hy135, hF⟩ := bnd_some hF
                            have J135 : ∀ (H : Heap) (locs : List Loc) (ls : Array Slot), va_P D classes (wld ct ad G y135) H → va_D A (wld ct ad G y135) → va_S A s.heap H locs → lv_has ls 16 [(15, .int x21), (14, .int y16), (13, .int y14), (12, .int y12), (11, .int y10.1), (10, .int y6.2), (9, .int y4.2), (8, .int y2.2), (7, .int y1.2), (0, .ref (ad a)), (1, .int p0), (2, .int p1), (3, .int p2), (4, .int p3), (5, .int p4), (6, .int p5)] → W p l e (headSpec wuX9_guess ({ frames := 1, cells := 0, slots := 0, locals := 34 })).room s m ([.ref (ad a), .int p0, .int p1, .int p2, .int p3, .int p4, .int p5] : List Value).toArray below meth c H locs 0 0 (MQ below (va_Qv (fun (_ : Unit) => True) (fun _ t => kE D ct ad G A y t) A) ([.ref (ad a), .int p0, .int p1, .int p2, .int p3, .int p4, .int p5] : List Value).toArray s 0 0 A) (F0 m 318 ls []) := by
                              intro H locs ls hP hD hS hl
                              obtain rfl := Option.some.inj hF
                              exact J133 _ _ _ hP hD hS (lv_sub hl [0, 1, 2, 3, 4, 5, 6, 7, 8, 9, 10, 11, 12, 13, 14, 15] rfl)
                            clear hF
                            have hF := hy135
                            clear hy135
                            refine lv_icmp_ne (tgt := 307) hx hb dX9_guess_274 (by decide) (fun c136 => ?_) (fun c136 => ?_)
                            · rw [if_neg c136] at hF
                              refine lv_aload_n hx hb dX9_guess_307 rfl (lv_at hl 9 rfl) ?_
                              refine lv_iload_n hx hb dX9_guess_308 rfl (lv_at hl 11 rfl) ?_
                              refine lv_iload hx hb dX9_guess_309 (lv_at hl 6 rfl) ?_
                              refine lv_iload hx hb dX9_guess_311 (lv_at hl 5 rfl) ?_
                              refine lv_iload hx hb dX9_guess_313 (lv_at hl 4 rfl) ?_
                              obtain ⟨y137, hy137, hF⟩ := bnd_some hF
                              have hf9 := wA_in hD hA9 hS
                              refine va_callv (va_runV (As := [.int p1, .int y4.2, .int y6.2, .int y10.1]) (rest := []) ⟨hx, hb, hml, hown, hts⟩ (kX9_adoptMedian l D ct ad Z G y15.1 H.size a p1 y4.2 y6.2 y10.1 y137 hc hk hy137) (cwV 4 hts gX9_guess_X9_adoptMedian rfl rfl rfl (by decide +kernel) ⟨Nat.le_of_ble_eq_true rfl, Nat.le_of_ble_eq_true rfl⟩) ⟨fun a U g mk q => by obtain ⟨q0, q1, qP, qK, qD, qZ, qN⟩ := q; exact ⟨q0, q1, qP, va_K.moved (u := U) (U := U.calling g mk a) (Vm.Alike.refl U.vm) qK, qD, sF.moved (u := U) (U := U.calling g mk a) (Vm.Alike.refl U.vm) qZ, nF.same rfl qN⟩, va_recv hK hP (ci := 9) (q0 := a) rfl (wld_o ct ad G y15.1 hc hk (by decide)), fun U hU hW => ⟨rfl, by rw [hU], by rw [hU]; exact hP, va_K.moved hW.alike hK, hD.weaken (fun _ _ _ _ => trivial), by rw [hU]; exact ((hZ.kept hS.2.1).narrow hf9).moved hW.alike, hN.warm hW⟩⟩ rfl rfl hl.1 rfl (lv_room (Nat.le_of_ble_eq_true rfl)) dX9_guess_315 ⟨(Nat.zero_le _), (Nat.zero_le _)⟩) hS (fun q _ h => hf9 q h) hf9 (fun u t H locs ht hvm hw hB hz1 hk1 hS => ?_)
                              obtain ⟨hP, hK9, hD9⟩ := hB
                              rw [ht] at hP
                              have hD := hD9.weaken (fun _ q _ h => hf9 q.1 h)
                              obtain rfl := Option.some.inj hF
                              exact J135 _ _ _ hP hD hS (lv_sub hl [0, 1, 2, 3, 4, 5, 6, 7, 8, 9, 10, 11, 12, 13, 14, 15] rfl)
                            · rw [if_pos c136] at hF
                              refine lv_aload_n hx hb dX9_guess_277 rfl (lv_at hl 9 rfl) ?_
                              refine lv_iload_n hx hb dX9_guess_278 rfl (lv_at hl 11 rfl) ?_
                              refine lv_iload hx hb dX9_guess_279 (lv_at hl 3 rfl) ?_
                              obtain ⟨y138, hy138, hF⟩ := bnd_some hF
                              have J138 : ∀ (H : Heap) (locs : List Loc) (ls : Array Slot), va_P D classes (wld ct ad G y15.1) H → va_D A (wld ct ad G y15.1) → va_S A s.heap H locs → lv_has ls 16 [(15, .int x21), (14, .int y16), (13, .int y14), (12, .int y12), (11, .int y10.1), (10, .int y6.2), (9, .int y4.2), (8, .int y2.2), (7, .int y1.2), (0, .ref (ad a)), (1, .int p0), (2, .int p1), (3, .int p2), (4, .int p3), (5, .int p4), (6, .int p5)] → W p l e (headSpec wuX9_guess ({ frames := 1, cells := 0, slots := 0, locals := 34 })).room s m ([.ref (ad a), .int p0, .int p1, .int p2, .int p3, .int p4, .int p5] : List Value).toArray below meth c H locs 0 0 (MQ below (va_Qv (fun (_ : Unit) => True) (fun _ t => kE D ct ad G A y t) A) ([.ref (ad a), .int p0, .int p1, .int p2, .int p3, .int p4, .int p5] : List Value).toArray s 0 0 A) (F0 m 301 ls [.int y138, .int p1, .ref (ad a)]) := by
                                intro H locs ls hP hD hS hl
                                obtain ⟨y139, hy139, hF⟩ := bnd_some hF
                                have hf9 := wA_in hD hA9 hS
                                refine va_callv (va_runV (As := [.int p1, .int y138]) (rest := []) ⟨hx, hb, hml, hown, hts⟩ (kX9_adopt l D ct ad Z G y15.1 H.size a p1 y138 y139 hc hk hy139) (cwV 2 hts gX9_guess_X9_adopt rfl rfl rfl (by decide +kernel) ⟨Nat.le_of_ble_eq_true rfl, Nat.le_of_ble_eq_true rfl⟩) ⟨fun a U g mk q => by obtain ⟨q0, q1, qP, qK, qD, qZ, qN⟩ := q; exact ⟨q0, q1, qP, va_K.moved (u := U) (U := U.calling g mk a) (Vm.Alike.refl U.vm) qK, qD, sF.moved (u := U) (U := U.calling g mk a) (Vm.Alike.refl U.vm) qZ, nF.same rfl qN⟩, va_recv hK hP (ci := 9) (q0 := a) rfl (wld_o ct ad G y15.1 hc hk (by decide)), fun U hU hW => ⟨rfl, by rw [hU], by rw [hU]; exact hP, va_K.moved hW.alike hK, hD.weaken (fun _ _ _ _ => trivial), by rw [hU]; exact ((hZ.kept hS.2.1).narrow hf9).moved hW.alike, hN.warm hW⟩⟩ rfl rfl hl.1 rfl (lv_room (Nat.le_of_ble_eq_true rfl)) dX9_guess_301 ⟨(Nat.zero_le _), (Nat.zero_le _)⟩) hS (fun q _ h => hf9 q h) hf9 (fun u t H locs ht hvm hw hB hz1 hk1 hS => ?_)
                                obtain ⟨hP, hK9, hD9⟩ := hB
                                rw [ht] at hP
                                have hD := hD9.weaken (fun _ q _ h => hf9 q.1 h)
                                refine lv_goto (tgt := 318) hx hb dX9_guess_304 (by decide) ?_
                                obtain rfl := Option.some.inj hF
                                exact J135 _ _ _ hP hD hS (lv_sub hl [0, 1, 2, 3, 4, 5, 6, 7, 8, 9, 10, 11, 12, 13, 14, 15] rfl)
                              clear hF
                              have hF := hy138
                              clear hy138
                              refine lv_if_eq (tgt := 289) hx hb dX9_guess_281 (by decide) (fun c140 => ?_) (fun c140 => ?_)
                              · rw [if_pos c140] at hF
                                refine lv_iload hx hb dX9_guess_289 (lv_at hl 2 rfl) ?_
                                obtain ⟨y141, hy141, hF⟩ := bnd_some hF
                                have J141 : ∀ (H : Heap) (locs : List Loc) (ls : Array Slot), va_P D classes (wld ct ad G y15.1) H → va_D A (wld ct ad G y15.1) → va_S A s.heap H locs → lv_has ls 16 [(15, .int x21), (14, .int y16), (13, .int y14), (12, .int y12), (11, .int y10.1), (10, .int y6.2), (9, .int y4.2), (8, .int y2.2), (7, .int y1.2), (0, .ref (ad a)), (1, .int p0), (2, .int p1), (3, .int p2), (4, .int p3), (5, .int p4), (6, .int p5)] → W p l e (headSpec wuX9_guess ({ frames := 1, cells := 0, slots := 0, locals := 34 })).room s m ([.ref (ad a), .int p0, .int p1, .int p2, .int p3, .int p4, .int p5] : List Value).toArray below meth c H locs 0 0 (MQ below (va_Qv (fun (_ : Unit) => True) (fun _ t => kE D ct ad G A y t) A) ([.ref (ad a), .int p0, .int p1, .int p2, .int p3, .int p4, .int p5] : List Value).toArray s 0 0 A) (F0 m 301 ls [.int y141, .int p1, .ref (ad a)]) := by
                                  intro H locs ls hP hD hS hl
                                  obtain rfl := Option.some.inj hF
                                  exact J138 _ _ _ hP hD hS (lv_sub hl [0, 1, 2, 3, 4, 5, 6, 7, 8, 9, 10, 11, 12, 13, 14, 15] rfl)
                                clear hF
                                have hF := hy141
                                clear hy141
                                refine lv_if_eq (tgt := 299) hx hb dX9_guess_291 (by decide) (fun c142 => ?_) (fun c142 => ?_)
                                · rw [if_pos c142] at hF
                                  refine lv_iload hx hb dX9_guess_299 (lv_at hl 4 rfl) ?_
                                  obtain rfl := Option.some.inj hF
                                  exact J141 _ _ _ hP hD hS (lv_sub hl [0, 1, 2, 3, 4, 5, 6, 7, 8, 9, 10, 11, 12, 13, 14, 15] rfl)
                                · rw [if_neg c142] at hF
                                  refine lv_iload hx hb dX9_guess_294 (lv_at hl 5 rfl) ?_
                                  refine lv_goto (tgt := 301) hx hb dX9_guess_296 (by decide) ?_
                                  obtain rfl := Option.some.inj hF
                                  exact J141 _ _ _ hP hD hS (lv_sub hl [0, 1, 2, 3, 4, 5, 6, 7, 8, 9, 10, 11, 12, 13, 14, 15] rfl)
                              · rw [if_neg c140] at hF
                                refine lv_iload hx hb dX9_guess_284 (lv_at hl 6 rfl) ?_
                                refine lv_goto (tgt := 301) hx hb dX9_guess_286 (by decide) ?_
                                obtain rfl := Option.some.inj hF
                                exact J138 _ _ _ hP hD hS (lv_sub hl [0, 1, 2, 3, 4, 5, 6, 7, 8, 9, 10, 11, 12, 13, 14, 15] rfl)
                          · rw [if_neg c134] at hF
                            refine lv_iload hx hb dX9_guess_251 (lv_at hl 4 rfl) ?_
                            obtain ⟨y143, hy143, hF⟩ := bnd_some hF
                            have J143 : ∀ (H : Heap) (locs : List Loc) (ls : Array Slot), va_P D classes (wld ct ad G y143) H → va_D A (wld ct ad G y143) → va_S A s.heap H locs → lv_has ls 16 [(15, .int x21), (14, .int y16), (13, .int y14), (12, .int y12), (11, .int y10.1), (10, .int y6.2), (9, .int y4.2), (8, .int y2.2), (7, .int y1.2), (0, .ref (ad a)), (1, .int p0), (2, .int p1), (3, .int p2), (4, .int p3), (5, .int p4), (6, .int p5)] → W p l e (headSpec wuX9_guess ({ frames := 1, cells := 0, slots := 0, locals := 34 })).room s m ([.ref (ad a), .int p0, .int p1, .int p2, .int p3, .int p4, .int p5] : List Value).toArray below meth c H locs 0 0 (MQ below (va_Qv (fun (_ : Unit) => True) (fun _ t => kE D ct ad G A y t) A) ([.ref (ad a), .int p0, .int p1, .int p2, .int p3, .int p4, .int p5] : List Value).toArray s 0 0 A) (F0 m 318 ls []) := by
                              intro H locs ls hP hD hS hl
                              obtain rfl := Option.some.inj hF
                              exact J133 _ _ _ hP hD hS (lv_sub hl [0, 1, 2, 3, 4, 5, 6, 7, 8, 9, 10, 11, 12, 13, 14, 15] rfl)
                            clear hF
                            have hF := hy143
                            clear hy143
                            refine lv_if_ge (tgt := 271) hx hb dX9_guess_253 (by decide) (fun c144 => ?_) (fun c144 => ?_)
                            · rw [if_pos c144] at hF
                              refine lv_iload hx hb dX9_guess_271 (lv_at hl 0 rfl) ?_
                              refine lv_iconst (v := (1 : Int32)) hx hb dX9_guess_273 (by decide) ?_
                              obtain ⟨y145, hy145, hF⟩ := bnd_some hF
                              have J145 : ∀ (H : Heap) (locs : List Loc) (ls : Array Slot), va_P D classes (wld ct ad G y145) H → va_D A (wld ct ad G y145) → va_S A s.heap H locs → lv_has ls 16 [(15, .int x21), (14, .int y16), (13, .int y14), (12, .int y12), (11, .int y10.1), (10, .int y6.2), (9, .int y4.2), (8, .int y2.2), (7, .int y1.2), (0, .ref (ad a)), (1, .int p0), (2, .int p1), (3, .int p2), (4, .int p3), (5, .int p4), (6, .int p5)] → W p l e (headSpec wuX9_guess ({ frames := 1, cells := 0, slots := 0, locals := 34 })).room s m ([.ref (ad a), .int p0, .int p1, .int p2, .int p3, .int p4, .int p5] : List Value).toArray below meth c H locs 0 0 (MQ below (va_Qv (fun (_ : Unit) => True) (fun _ t => kE D ct ad G A y t) A) ([.ref (ad a), .int p0, .int p1, .int p2, .int p3, .int p4, .int p5] : List Value).toArray s 0 0 A) (F0 m 318 ls []) := by
                                intro H locs ls hP hD hS hl
                                obtain rfl := Option.some.inj hF
                                exact J143 _ _ _ hP hD hS (lv_sub hl [0, 1, 2, 3, 4, 5, 6, 7, 8, 9, 10, 11, 12, 13, 14, 15] rfl)
                              clear hF
                              have hF := hy145
                              clear hy145
                              refine lv_icmp_ne (tgt := 307) hx hb dX9_guess_274 (by decide) (fun c146 => ?_) (fun c146 => ?_)
                              · rw [if_neg c146] at hF
                                refine lv_aload_n hx hb dX9_guess_307 rfl (lv_at hl 9 rfl) ?_
                                refine lv_iload_n hx hb dX9_guess_308 rfl (lv_at hl 11 rfl) ?_
                                refine lv_iload hx hb dX9_guess_309 (lv_at hl 6 rfl) ?_
                                refine lv_iload hx hb dX9_guess_311 (lv_at hl 5 rfl) ?_
                                refine lv_iload hx hb dX9_guess_313 (lv_at hl 4 rfl) ?_
                                obtain ⟨y147, hy147, hF⟩ := bnd_some hF
                                have hf9 := wA_in hD hA9 hS
                                refine va_callv (va_runV (As := [.int p1, .int y4.2, .int y6.2, .int y10.1]) (rest := []) ⟨hx, hb, hml, hown, hts⟩ (kX9_adoptMedian l D ct ad Z G y15.1 H.size a p1 y4.2 y6.2 y10.1 y147 hc hk hy147) (cwV 4 hts gX9_guess_X9_adoptMedian rfl rfl rfl (by decide +kernel) ⟨Nat.le_of_ble_eq_true rfl, Nat.le_of_ble_eq_true rfl⟩) ⟨fun a U g mk q => by obtain ⟨q0, q1, qP, qK, qD, qZ, qN⟩ := q; exact ⟨q0, q1, qP, va_K.moved (u := U) (U := U.calling g mk a) (Vm.Alike.refl U.vm) qK, qD, sF.moved (u := U) (U := U.calling g mk a) (Vm.Alike.refl U.vm) qZ, nF.same rfl qN⟩, va_recv hK hP (ci := 9) (q0 := a) rfl (wld_o ct ad G y15.1 hc hk (by decide)), fun U hU hW => ⟨rfl, by rw [hU], by rw [hU]; exact hP, va_K.moved hW.alike hK, hD.weaken (fun _ _ _ _ => trivial), by rw [hU]; exact ((hZ.kept hS.2.1).narrow hf9).moved hW.alike, hN.warm hW⟩⟩ rfl rfl hl.1 rfl (lv_room (Nat.le_of_ble_eq_true rfl)) dX9_guess_315 ⟨(Nat.zero_le _), (Nat.zero_le _)⟩) hS (fun q _ h => hf9 q h) hf9 (fun u t H locs ht hvm hw hB hz1 hk1 hS => ?_)
                                obtain ⟨hP, hK9, hD9⟩ := hB
                                rw [ht] at hP
                                have hD := hD9.weaken (fun _ q _ h => hf9 q.1 h)
                                obtain rfl := Option.some.inj hF
                                exact J145 _ _ _ hP hD hS (lv_sub hl [0, 1, 2, 3, 4, 5, 6, 7, 8, 9, 10, 11, 12, 13, 14, 15] rfl)
                              · rw [if_pos c146] at hF
                                refine lv_aload_n hx hb dX9_guess_277 rfl (lv_at hl 9 rfl) ?_
                                refine lv_iload_n hx hb dX9_guess_278 rfl (lv_at hl 11 rfl) ?_
                                refine lv_iload hx hb dX9_guess_279 (lv_at hl 3 rfl) ?_
                                obtain ⟨y148, hy148, hF⟩ := bnd_some hF
                                have J148 : ∀ (H : Heap) (locs : List Loc) (ls : Array Slot), va_P D classes (wld ct ad G y15.1) H → va_D A (wld ct ad G y15.1) → va_S A s.heap H locs → lv_has ls 16 [(15, .int x21), (14, .int y16), (13, .int y14), (12, .int y12), (11, .int y10.1), (10, .int y6.2), (9, .int y4.2), (8, .int y2.2), (7, .int y1.2), (0, .ref (ad a)), (1, .int p0), (2, .int p1), (3, .int p2), (4, .int p3), (5, .int p4), (6, .int p5)] → W p l e (headSpec wuX9_guess ({ frames := 1, cells := 0, slots := 0, locals := 34 })).room s m ([.ref (ad a), .int p0, .int p1, .int p2, .int p3, .int p4, .int p5] : List Value).toArray below meth c H locs 0 0 (MQ below (va_Qv (fun (_ : Unit) => True) (fun _ t => kE D ct ad G A y t) A) ([.ref (ad a), .int p0, .int p1, .int p2, .int p3, .int p4, .int p5] : List Value).toArray s 0 0 A) (F0 m 301 ls [.int y148, .int p1, .ref (ad a)]) := by
                                  intro H locs ls hP hD hS hl
                                  obtain ⟨y149, hy149, hF⟩ := bnd_some hF
                                  have hf9 := wA_in hD hA9 hS
                                  refine va_callv (va_runV (As := [.int p1, .int y148]) (rest := []) ⟨hx, hb, hml, hown, hts⟩ (kX9_adopt l D ct ad Z G y15.1 H.size a p1 y148 y149 hc hk hy149) (cwV 2 hts gX9_guess_X9_adopt rfl rfl rfl (by decide +kernel) ⟨Nat.le_of_ble_eq_true rfl, Nat.le_of_ble_eq_true rfl⟩) ⟨fun a U g mk q => by obtain ⟨q0, q1, qP, qK, qD, qZ, qN⟩ := q; exact ⟨q0, q1, qP, va_K.moved (u := U) (U := U.calling g mk a) (Vm.Alike.refl U.vm) qK, qD, sF.moved (u := U) (U := U.calling g mk a) (Vm.Alike.refl U.vm) qZ, nF.same rfl qN⟩, va_recv hK hP (ci := 9) (q0 := a) rfl (wld_o ct ad G y15.1 hc hk (by decide)), fun U hU hW => ⟨rfl, by rw [hU], by rw [hU]; exact hP, va_K.moved hW.alike hK, hD.weaken (fun _ _ _ _ => trivial), by rw [hU]; exact ((hZ.kept hS.2.1).narrow hf9).moved hW.alike, hN.warm hW⟩⟩ rfl rfl hl.1 rfl (lv_room (Nat.le_of_ble_eq_true rfl)) dX9_guess_301 ⟨(Nat.zero_le _), (Nat.zero_le _)⟩) hS (fun q _ h => hf9 q h) hf9 (fun u t H locs ht hvm hw hB hz1 hk1 hS => ?_)
                                  obtain ⟨hP, hK9, hD9⟩ := hB
                                  rw [ht] at hP
                                  have hD := hD9.weaken (fun _ q _ h => hf9 q.1 h)
                                  refine lv_goto (tgt := 318) hx hb dX9_guess_304 (by decide) ?_
                                  obtain rfl := Option.some.inj hF
                                  exact J145 _ _ _ hP hD hS (lv_sub hl [0, 1, 2, 3, 4, 5, 6, 7, 8, 9, 10, 11, 12, 13, 14, 15] rfl)
                                clear hF
                                have hF := hy148
                                clear hy148
                                refine lv_if_eq (tgt := 289) hx hb dX9_guess_281 (by decide) (fun c150 => ?_) (fun c150 => ?_)
                                · rw [if_pos c150] at hF
                                  refine lv_iload hx hb dX9_guess_289 (lv_at hl 2 rfl) ?_
                                  obtain ⟨y151, hy151, hF⟩ := bnd_some hF
                                  have J151 : ∀ (H : Heap) (locs : List Loc) (ls : Array Slot), va_P D classes (wld ct ad G y15.1) H → va_D A (wld ct ad G y15.1) → va_S A s.heap H locs → lv_has ls 16 [(15, .int x21), (14, .int y16), (13, .int y14), (12, .int y12), (11, .int y10.1), (10, .int y6.2), (9, .int y4.2), (8, .int y2.2), (7, .int y1.2), (0, .ref (ad a)), (1, .int p0), (2, .int p1), (3, .int p2), (4, .int p3), (5, .int p4), (6, .int p5)] → W p l e (headSpec wuX9_guess ({ frames := 1, cells := 0, slots := 0, locals := 34 })).room s m ([.ref (ad a), .int p0, .int p1, .int p2, .int p3, .int p4, .int p5] : List Value).toArray below meth c H locs 0 0 (MQ below (va_Qv (fun (_ : Unit) => True) (fun _ t => kE D ct ad G A y t) A) ([.ref (ad a), .int p0, .int p1, .int p2, .int p3, .int p4, .int p5] : List Value).toArray s 0 0 A) (F0 m 301 ls [.int y151, .int p1, .ref (ad a)]) := by
                                    intro H locs ls hP hD hS hl
                                    obtain rfl := Option.some.inj hF
                                    exact J148 _ _ _ hP hD hS (lv_sub hl [0, 1, 2, 3, 4, 5, 6, 7, 8, 9, 10, 11, 12, 13, 14, 15] rfl)
                                  clear hF
                                  have hF := hy151
                                  clear hy151
                                  refine lv_if_eq (tgt := 299) hx hb dX9_guess_291 (by decide) (fun c152 => ?_) (fun c152 => ?_)
                                  · rw [if_pos c152] at hF
                                    refine lv_iload hx hb dX9_guess_299 (lv_at hl 4 rfl) ?_
                                    obtain rfl := Option.some.inj hF
                                    exact J151 _ _ _ hP hD hS (lv_sub hl [0, 1, 2, 3, 4, 5, 6, 7, 8, 9, 10, 11, 12, 13, 14, 15] rfl)
                                  · rw [if_neg c152] at hF
                                    refine lv_iload hx hb dX9_guess_294 (lv_at hl 5 rfl) ?_
                                    refine lv_goto (tgt := 301) hx hb dX9_guess_296 (by decide) ?_
                                    obtain rfl := Option.some.inj hF
                                    exact J151 _ _ _ hP hD hS (lv_sub hl [0, 1, 2, 3, 4, 5, 6, 7, 8, 9, 10, 11, 12, 13, 14, 15] rfl)
                                · rw [if_neg c150] at hF
                                  refine lv_iload hx hb dX9_guess_284 (lv_at hl 6 rfl) ?_
                                  refine lv_goto (tgt := 301) hx hb dX9_guess_286 (by decide) ?_
                                  obtain rfl := Option.some.inj hF
                                  exact J148 _ _ _ hP hD hS (lv_sub hl [0, 1, 2, 3, 4, 5, 6, 7, 8, 9, 10, 11, 12, 13, 14, 15] rfl)
                            · rw [if_neg c144] at hF
                              refine lv_iload hx hb dX9_guess_256 (lv_at hl 6 rfl) ?_
                              obtain ⟨y153, hy153, hF⟩ := bnd_some hF
                              have J153 : ∀ (H : Heap) (locs : List Loc) (ls : Array Slot), va_P D classes (wld ct ad G y153) H → va_D A (wld ct ad G y153) → va_S A s.heap H locs → lv_has ls 16 [(15, .int x21), (14, .int y16), (13, .int y14), (12, .int y12), (11, .int y10.1), (10, .int y6.2), (9, .int y4.2), (8, .int y2.2), (7, .int y1.2), (0, .ref (ad a)), (1, .int p0), (2, .int p1), (3, .int p2), (4, .int p3), (5, .int p4), (6, .int p5)] → W p l e (headSpec wuX9_guess ({ frames := 1, cells := 0, slots := 0, locals := 34 })).room s m ([.ref (ad a), .int p0, .int p1, .int p2, .int p3, .int p4, .int p5] : List Value).toArray below meth c H locs 0 0 (MQ below (va_Qv (fun (_ : Unit) => True) (fun _ t => kE D ct ad G A y t) A) ([.ref (ad a), .int p0, .int p1, .int p2, .int p3, .int p4, .int p5] : List Value).toArray s 0 0 A) (F0 m 318 ls []) := by
                                intro H locs ls hP hD hS hl
                                obtain rfl := Option.some.inj hF
                                exact J143 _ _ _ hP hD hS (lv_sub hl [0, 1, 2, 3, 4, 5, 6, 7, 8, 9, 10, 11, 12, 13, 14, 15] rfl)
                              clear hF
                              have hF := hy153
                              clear hy153
                              refine lv_if_lt (tgt := 271) hx hb dX9_guess_258 (by decide) (fun c154 => ?_) (fun c154 => ?_)
                              · rw [if_pos c154] at hF
                                refine lv_iload hx hb dX9_guess_271 (lv_at hl 0 rfl) ?_
                                refine lv_iconst (v := (1 : Int32)) hx hb dX9_guess_273 (by decide) ?_
                                obtain ⟨y155, hy155, hF⟩ := bnd_some hF
                                have J155 : ∀ (H : Heap) (locs : List Loc) (ls : Array Slot), va_P D classes (wld ct ad G y155) H → va_D A (wld ct ad G y155) → va_S A s.heap H locs → lv_has ls 16 [(15, .int x21), (14, .int y16), (13, .int y14), (12, .int y12), (11, .int y10.1), (10, .int y6.2), (9, .int y4.2), (8, .int y2.2), (7, .int y1.2), (0, .ref (ad a)), (1, .int p0), (2, .int p1), (3, .int p2), (4, .int p3), (5, .int p4), (6, .int p5)] → W p l e (headSpec wuX9_guess ({ frames := 1, cells := 0, slots := 0, locals := 34 })).room s m ([.ref (ad a), .int p0, .int p1, .int p2, .int p3, .int p4, .int p5] : List Value).toArray below meth c H locs 0 0 (MQ below (va_Qv (fun (_ : Unit) => True) (fun _ t => kE D ct ad G A y t) A) ([.ref (ad a), .int p0, .int p1, .int p2, .int p3, .int p4, .int p5] : List Value).toArray s 0 0 A) (F0 m 318 ls []) := by
                                  intro H locs ls hP hD hS hl
                                  obtain rfl := Option.some.inj hF
                                  exact J153 _ _ _ hP hD hS (lv_sub hl [0, 1, 2, 3, 4, 5, 6, 7, 8, 9, 10, 11, 12, 13, 14, 15] rfl)
                                clear hF
                                have hF := hy155
                                clear hy155
                                refine lv_icmp_ne (tgt := 307) hx hb dX9_guess_274 (by decide) (fun c156 => ?_) (fun c156 => ?_)
                                · rw [if_neg c156] at hF
                                  refine lv_aload_n hx hb dX9_guess_307 rfl (lv_at hl 9 rfl) ?_
                                  refine lv_iload_n hx hb dX9_guess_308 rfl (lv_at hl 11 rfl) ?_
                                  refine lv_iload hx hb dX9_guess_309 (lv_at hl 6 rfl) ?_
                                  refine lv_iload hx hb dX9_guess_311 (lv_at hl 5 rfl) ?_
                                  refine lv_iload hx hb dX9_guess_313 (lv_at hl 4 rfl) ?_
                                  obtain ⟨y157, hy157, hF⟩ := bnd_some hF
                                  have hf9 := wA_in hD hA9 hS
                                  refine va_callv (va_runV (As := [.int p1, .int y4.2, .int y6.2, .int y10.1]) (rest := []) ⟨hx, hb, hml, hown, hts⟩ (kX9_adoptMedian l D ct ad Z G y15.1 H.size a p1 y4.2 y6.2 y10.1 y157 hc hk hy157) (cwV 4 hts gX9_guess_X9_adoptMedian rfl rfl rfl (by decide +kernel) ⟨Nat.le_of_ble_eq_true rfl, Nat.le_of_ble_eq_true rfl⟩) ⟨fun a U g mk q => by obtain ⟨q0, q1, qP, qK, qD, qZ, qN⟩ := q; exact ⟨q0, q1, qP, va_K.moved (u := U) (U := U.calling g mk a) (Vm.Alike.refl U.vm) qK, qD, sF.moved (u := U) (U := U.calling g mk a) (Vm.Alike.refl U.vm) qZ, nF.same rfl qN⟩, va_recv hK hP (ci := 9) (q0 := a) rfl (wld_o ct ad G y15.1 hc hk (by decide)), fun U hU hW => ⟨rfl, by rw [hU], by rw [hU]; exact hP, va_K.moved hW.alike hK, hD.weaken (fun _ _ _ _ => trivial), by rw [hU]; exact ((hZ.kept hS.2.1).narrow hf9).moved hW.alike, hN.warm hW⟩⟩ rfl rfl hl.1 rfl (lv_room (Nat.le_of_ble_eq_true rfl)) dX9_guess_315 ⟨(Nat.zero_le _), (Nat.zero_le _)⟩) hS (fun q _ h => hf9 q h) hf9 (fun u t H locs ht hvm hw hB hz1 hk1 hS => ?_)
                                  obtain ⟨hP, hK9, hD9⟩ := hB
                                  rw [ht] at hP
                                  have hD := hD9.weaken (fun _ q _ h => hf9 q.1 h)
                                  obtain rfl := Option.some.inj hF
                                  exact J155 _ _ _ hP hD hS (lv_sub hl [0, 1, 2, 3, 4, 5, 6, 7, 8, 9, 10, 11, 12, 13, 14, 15] rfl)
                                · rw [if_pos c156] at hF
                                  refine lv_aload_n hx hb dX9_guess_277 rfl (lv_at hl 9 rfl) ?_
                                  refine lv_iload_n hx hb dX9_guess_278 rfl (lv_at hl 11 rfl) ?_
                                  refine lv_iload hx hb dX9_guess_279 (lv_at hl 3 rfl) ?_
                                  obtain ⟨y158, hy158, hF⟩ := bnd_some hF
                                  have J158 : ∀ (H : Heap) (locs : List Loc) (ls : Array Slot), va_P D classes (wld ct ad G y15.1) H → va_D A (wld ct ad G y15.1) → va_S A s.heap H locs → lv_has ls 16 [(15, .int x21), (14, .int y16), (13, .int y14), (12, .int y12), (11, .int y10.1), (10, .int y6.2), (9, .int y4.2), (8, .int y2.2), (7, .int y1.2), (0, .ref (ad a)), (1, .int p0), (2, .int p1), (3, .int p2), (4, .int p3), (5, .int p4), (6, .int p5)] → W p l e (headSpec wuX9_guess ({ frames := 1, cells := 0, slots := 0, locals := 34 })).room s m ([.ref (ad a), .int p0, .int p1, .int p2, .int p3, .int p4, .int p5] : List Value).toArray below meth c H locs 0 0 (MQ below (va_Qv (fun (_ : Unit) => True) (fun _ t => kE D ct ad G A y t) A) ([.ref (ad a), .int p0, .int p1, .int p2, .int p3, .int p4, .int p5] : List Value).toArray s 0 0 A) (F0 m 301 ls [.int y158, .int p1, .ref (ad a)]) := by
                                    intro H locs ls hP hD hS hl
                                    obtain ⟨y159, hy159, hF⟩ := bnd_some hF
                                    have hf9 := wA_in hD hA9 hS
                                    refine va_callv (va_runV (As := [.int p1, .int y158]) (rest := []) ⟨hx, hb, hml, hown, hts⟩ (kX9_adopt l D ct ad Z G y15.1 H.size a p1 y158 y159 hc hk hy159) (cwV 2 hts gX9_guess_X9_adopt rfl rfl rfl (by decide +kernel) ⟨Nat.le_of_ble_eq_true rfl, Nat.le_of_ble_eq_true rfl⟩) ⟨fun a U g mk q => by obtain ⟨q0, q1, qP, qK, qD, qZ, qN⟩ := q; exact ⟨q0, q1, qP, va_K.moved (u := U) (U := U.calling g mk a) (Vm.Alike.refl U.vm) qK, qD, sF.moved (u := U) (U := U.calling g mk a) (Vm.Alike.refl U.vm) qZ, nF.same rfl qN⟩, va_recv hK hP (ci := 9) (q0 := a) rfl (wld_o ct ad G y15.1 hc hk (by decide)), fun U hU hW => ⟨rfl, by rw [hU], by rw [hU]; exact hP, va_K.moved hW.alike hK, hD.weaken (fun _ _ _ _ => trivial), by rw [hU]; exact ((hZ.kept hS.2.1).narrow hf9).moved hW.alike, hN.warm hW⟩⟩ rfl rfl hl.1 rfl (lv_room (Nat.le_of_ble_eq_true rfl)) dX9_guess_301 ⟨(Nat.zero_le _), (Nat.zero_le _)⟩) hS (fun q _ h => hf9 q h) hf9 (fun u t H locs ht hvm hw hB hz1 hk1 hS => ?_)
                                    obtain ⟨hP, hK9, hD9⟩ := hB
                                    rw [ht] at hP
                                    have hD := hD9.weaken (fun _ q _ h => hf9 q.1 h)
                                    refine lv_goto (tgt := 318) hx hb dX9_guess_304 (by decide) ?_
                                    obtain rfl := Option.some.inj hF
                                    exact J155 _ _ _ hP hD hS (lv_sub hl [0, 1, 2, 3, 4, 5, 6, 7, 8, 9, 10, 11, 12, 13, 14, 15] rfl)
                                  clear hF
                                  have hF := hy158
                                  clear hy158
                                  refine lv_if_eq (tgt := 289) hx hb dX9_guess_281 (by decide) (fun c160 => ?_) (fun c160 => ?_)
                                  · rw [if_pos c160] at hF
                                    refine lv_iload hx hb dX9_guess_289 (lv_at hl 2 rfl) ?_
                                    obtain ⟨y161, hy161, hF⟩ := bnd_some hF
                                    have J161 : ∀ (H : Heap) (locs : List Loc) (ls : Array Slot), va_P D classes (wld ct ad G y15.1) H → va_D A (wld ct ad G y15.1) → va_S A s.heap H locs → lv_has ls 16 [(15, .int x21), (14, .int y16), (13, .int y14), (12, .int y12), (11, .int y10.1), (10, .int y6.2), (9, .int y4.2), (8, .int y2.2), (7, .int y1.2), (0, .ref (ad a)), (1, .int p0), (2, .int p1), (3, .int p2), (4, .int p3), (5, .int p4), (6, .int p5)] → W p l e (headSpec wuX9_guess ({ frames := 1, cells := 0, slots := 0, locals := 34 })).room s m ([.ref (ad a), .int p0, .int p1, .int p2, .int p3, .int p4, .int p5] : List Value).toArray below meth c H locs 0 0 (MQ below (va_Qv (fun (_ : Unit) => True) (fun _ t => kE D ct ad G A y t) A) ([.ref (ad a), .int p0, .int p1, .int p2, .int p3, .int p4, .int p5] : List Value).toArray s 0 0 A) (F0 m 301 ls [.int y161, .int p1, .ref (ad a)]) := by
                                      intro H locs ls hP hD hS hl
                                      obtain rfl := Option.some.inj hF
                                      exact J158 _ _ _ hP hD hS (lv_sub hl [0, 1, 2, 3, 4, 5, 6, 7, 8, 9, 10, 11, 12, 13, 14, 15] rfl)
                                    clear hF
                                    have hF := hy161
                                    clear hy161
                                    refine lv_if_eq (tgt := 299) hx hb dX9_guess_291 (by decide) (fun c162 => ?_) (fun c162 => ?_)
                                    · rw [if_pos c162] at hF
                                      refine lv_iload hx hb dX9_guess_299 (lv_at hl 4 rfl) ?_
                                      obtain rfl := Option.some.inj hF
                                      exact J161 _ _ _ hP hD hS (lv_sub hl [0, 1, 2, 3, 4, 5, 6, 7, 8, 9, 10, 11, 12, 13, 14, 15] rfl)
                                    · rw [if_neg c162] at hF
                                      refine lv_iload hx hb dX9_guess_294 (lv_at hl 5 rfl) ?_
                                      refine lv_goto (tgt := 301) hx hb dX9_guess_296 (by decide) ?_
                                      obtain rfl := Option.some.inj hF
                                      exact J161 _ _ _ hP hD hS (lv_sub hl [0, 1, 2, 3, 4, 5, 6, 7, 8, 9, 10, 11, 12, 13, 14, 15] rfl)
                                  · rw [if_neg c160] at hF
                                    refine lv_iload hx hb dX9_guess_284 (lv_at hl 6 rfl) ?_
                                    refine lv_goto (tgt := 301) hx hb dX9_guess_286 (by decide) ?_
                                    obtain rfl := Option.some.inj hF
                                    exact J158 _ _ _ hP hD hS (lv_sub hl [0, 1, 2, 3, 4, 5, 6, 7, 8, 9, 10, 11, 12, 13, 14, 15] rfl)
                              · rw [if_neg c154] at hF
                                refine lv_aload_n hx hb dX9_guess_261 rfl (lv_at hl 9 rfl) ?_
                                refine lv_iload_n hx hb dX9_guess_262 rfl (lv_at hl 11 rfl) ?_
                                refine lv_iload hx hb dX9_guess_263 (lv_at hl 6 rfl) ?_
                                obtain ⟨y163, hy163, hF⟩ := bnd_some hF
                                have hf9 := wA_in hD hA9 hS
                                refine va_callv (va_runV (As := [.int p1, .int y4.2]) (rest := []) ⟨hx, hb, hml, hown, hts⟩ (kX9_adopt l D ct ad Z G y15.1 H.size a p1 y4.2 y163 hc hk hy163) (cwV 2 hts gX9_guess_X9_adopt rfl rfl rfl (by decide +kernel) ⟨Nat.le_of_ble_eq_true rfl, Nat.le_of_ble_eq_true rfl⟩) ⟨fun a U g mk q => by obtain ⟨q0, q1, qP, qK, qD, qZ, qN⟩ := q; exact ⟨q0, q1, qP, va_K.moved (u := U) (U := U.calling g mk a) (Vm.Alike.refl U.vm) qK, qD, sF.moved (u := U) (U := U.calling g mk a) (Vm.Alike.refl U.vm) qZ, nF.same rfl qN⟩, va_recv hK hP (ci := 9) (q0 := a) rfl (wld_o ct ad G y15.1 hc hk (by decide)), fun U hU hW => ⟨rfl, by rw [hU], by rw [hU]; exact hP, va_K.moved hW.alike hK, hD.weaken (fun _ _ _ _ => trivial), by rw [hU]; exact ((hZ.kept hS.2.1).narrow hf9).moved hW.alike, hN.warm hW⟩⟩ rfl rfl hl.1 rfl (lv_room (Nat.le_of_ble_eq_true rfl)) dX9_guess_265 ⟨(Nat.zero_le _), (Nat.zero_le _)⟩) hS (fun q _ h => hf9 q h) hf9 (fun u t H locs ht hvm hw hB hz1 hk1 hS => ?_)
                                obtain ⟨hP, hK9, hD9⟩ := hB
                                rw [ht] at hP
                                have hD := hD9.weaken (fun _ q _ h => hf9 q.1 h)
                                refine lv_goto (tgt := 318) hx hb dX9_guess_268 (by decide) ?_
                                obtain rfl := Option.some.inj hF
                                exact J153 _ _ _ hP hD hS (lv_sub hl [0, 1, 2, 3, 4, 5, 6, 7, 8, 9, 10, 11, 12, 13, 14, 15] rfl)
                        · rw [if_neg c132] at hF
                          refine lv_aload_n hx hb dX9_guess_236 rfl (lv_at hl 9 rfl) ?_
                          refine lv_iload_n hx hb dX9_guess_237 rfl (lv_at hl 11 rfl) ?_
                          refine lv_iload hx hb dX9_guess_238 (lv_at hl 4 rfl) ?_
                          obtain ⟨y164, hy164, hF⟩ := bnd_some hF
                          have hf9 := wA_in hD hA9 hS
                          refine va_callv (va_runV (As := [.int p1, .int y10.1]) (rest := []) ⟨hx, hb, hml, hown, hts⟩ (kX9_adopt l D ct ad Z G y15.1 H.size a p1 y10.1 y164 hc hk hy164) (cwV 2 hts gX9_guess_X9_adopt rfl rfl rfl (by decide +kernel) ⟨Nat.le_of_ble_eq_true rfl, Nat.le_of_ble_eq_true rfl⟩) ⟨fun a U g mk q => by obtain ⟨q0, q1, qP, qK, qD, qZ, qN⟩ := q; exact ⟨q0, q1, qP, va_K.moved (u := U) (U := U.calling g mk a) (Vm.Alike.refl U.vm) qK, qD, sF.moved (u := U) (U := U.calling g mk a) (Vm.Alike.refl U.vm) qZ, nF.same rfl qN⟩, va_recv hK hP (ci := 9) (q0 := a) rfl (wld_o ct ad G y15.1 hc hk (by decide)), fun U hU hW => ⟨rfl, by rw [hU], by rw [hU]; exact hP, va_K.moved hW.alike hK, hD.weaken (fun _ _ _ _ => trivial), by rw [hU]; exact ((hZ.kept hS.2.1).narrow hf9).moved hW.alike, hN.warm hW⟩⟩ rfl rfl hl.1 rfl (lv_room (Nat.le_of_ble_eq_true rfl)) dX9_guess_240 ⟨(Nat.zero_le _), (Nat.zero_le _)⟩) hS (fun q _ h => hf9 q h) hf9 (fun u t H locs ht hvm hw hB hz1 hk1 hS => ?_)
                          obtain ⟨hP, hK9, hD9⟩ := hB
                          rw [ht] at hP
                          have hD := hD9.weaken (fun _ q _ h => hf9 q.1 h)
                          refine lv_goto (tgt := 318) hx hb dX9_guess_243 (by decide) ?_
                          obtain rfl := Option.some.inj hF
                          exact J131 _ _ _ hP hD hS (lv_sub hl [0, 1, 2, 3, 4, 5, 6, 7, 8, 9, 10, 11, 12, 13, 14, 15] rfl)
                    · rw [if_pos c97] at hF
                      refine lv_iload hx hb dX9_guess_210 (lv_at hl 3 rfl) ?_
                      obtain ⟨y165, hy165, hF⟩ := bnd_some hF
                      have J165 : ∀ (H : Heap) (locs : List Loc) (ls : Array Slot), va_P D classes (wld ct ad G y165) H → va_D A (wld ct ad G y165) → va_S A s.heap H locs → lv_has ls 16 [(15, .int x21), (14, .int y16), (13, .int y14), (12, .int y12), (11, .int y10.1), (10, .int y6.2), (9, .int y4.2), (8, .int y2.2), (7, .int y1.2), (0, .ref (ad a)), (1, .int p0), (2, .int p1), (3, .int p2), (4, .int p3), (5, .int p4), (6, .int p5)] → W p l e (headSpec wuX9_guess ({ frames := 1, cells := 0, slots := 0, locals := 34 })).room s m ([.ref (ad a), .int p0, .int p1, .int p2, .int p3, .int p4, .int p5] : List Value).toArray below meth c H locs 0 0 (MQ below (va_Qv (fun (_ : Unit) => True) (fun _ t => kE D ct ad G A y t) A) ([.ref (ad a), .int p0, .int p1, .int p2, .int p3, .int p4, .int p5] : List Value).toArray s 0 0 A) (F0 m 318 ls []) := by
                        intro H locs ls hP hD hS hl
                        obtain rfl := Option.some.inj hF
                        exact J96 _ _ _ hP hD hS (lv_sub hl [0, 1, 2, 3, 4, 5, 6, 7, 8, 9, 10, 11, 12, 13, 14, 15] rfl)
                      clear hF
                      have hF := hy165
                      clear hy165
                      refine lv_if_eq (tgt := 225) hx hb dX9_guess_212 (by decide) (fun c166 => ?_) (fun c166 => ?_)
                      · rw [if_pos c166] at hF
                        refine lv_iload hx hb dX9_guess_225 (lv_at hl 15 rfl) ?_
                        refine lv_iconst (v := (4 : Int32)) hx hb dX9_guess_227 (by decide) ?_
                        obtain ⟨y167, hy167, hF⟩ := bnd_some hF
                        have J167 : ∀ (H : Heap) (locs : List Loc) (ls : Array Slot), va_P D classes (wld ct ad G y167) H → va_D A (wld ct ad G y167) → va_S A s.heap H locs → lv_has ls 16 [(15, .int x21), (14, .int y16), (13, .int y14), (12, .int y12), (11, .int y10.1), (10, .int y6.2), (9, .int y4.2), (8, .int y2.2), (7, .int y1.2), (0, .ref (ad a)), (1, .int p0), (2, .int p1), (3, .int p2), (4, .int p3), (5, .int p4), (6, .int p5)] → W p l e (headSpec wuX9_guess ({ frames := 1, cells := 0, slots := 0, locals := 34 })).room s m ([.ref (ad a), .int p0, .int p1, .int p2, .int p3, .int p4, .int p5] : List Value).toArray below meth c H locs 0 0 (MQ below (va_Qv (fun (_ : Unit) => True) (fun _ t => kE D ct ad G A y t) A) ([.ref (ad a), .int p0, .int p1, .int p2, .int p3, .int p4, .int p5] : List Value).toArray s 0 0 A) (F0 m 318 ls []) := by
                          intro H locs ls hP hD hS hl
                          obtain rfl := Option.some.inj hF
                          exact J165 _ _ _ hP hD hS (lv_sub hl [0, 1, 2, 3, 4, 5, 6, 7, 8, 9, 10, 11, 12, 13, 14, 15] rfl)
                        clear hF
                        have hF := hy167
                        clear hy167
                        refine lv_icmp_ne (tgt := 246) hx hb dX9_guess_228 (by decide) (fun c168 => ?_) (fun c168 => ?_)
                        · rw [if_neg c168] at hF
                          refine lv_iload hx hb dX9_guess_246 (lv_at hl 5 rfl) ?_
                          obtain ⟨y169, hy169, hF⟩ := bnd_some hF
                          have J169 : ∀ (H : Heap) (locs : List Loc) (ls : Array Slot), va_P D classes (wld ct ad G y169) H → va_D A (wld ct ad G y169) → va_S A s.heap H locs → lv_has ls 16 [(15, .int x21), (14, .int y16), (13, .int y14), (12, .int y12), (11, .int y10.1), (10, .int y6.2), (9, .int y4.2), (8, .int y2.2), (7, .int y1.2), (0, .ref (ad a)), (1, .int p0), (2, .int p1), (3, .int p2), (4, .int p3), (5, .int p4), (6, .int p5)] → W p l e (headSpec wuX9_guess ({ frames := 1, cells := 0, slots := 0, locals := 34 })).room s m ([.ref (ad a), .int p0, .int p1, .int p2, .int p3, .int p4, .int p5] : List Value).toArray below meth c H locs 0 0 (MQ below (va_Qv (fun (_ : Unit) => True) (fun _ t => kE D ct ad G A y t) A) ([.ref (ad a), .int p0, .int p1, .int p2, .int p3, .int p4, .int p5] : List Value).toArray s 0 0 A) (F0 m 318 ls []) := by
                            intro H locs ls hP hD hS hl
                            obtain rfl := Option.some.inj hF
                            exact J167 _ _ _ hP hD hS (lv_sub hl [0, 1, 2, 3, 4, 5, 6, 7, 8, 9, 10, 11, 12, 13, 14, 15] rfl)
                          clear hF
                          have hF := hy169
                          clear hy169
                          refine lv_if_ge (tgt := 271) hx hb dX9_guess_248 (by decide) (fun c170 => ?_) (fun c170 => ?_)
                          · rw [if_pos c170] at hF
                            refine lv_iload hx hb dX9_guess_271 (lv_at hl 0 rfl) ?_
                            refine lv_iconst (v := (1 : Int32)) hx hb dX9_guess_273 (by decide) ?_
                            obtain ⟨y171, hy171, hF⟩ := bnd_some hF
                            have J171 : ∀ (H : Heap) (locs : List Loc) (ls : Array Slot), va_P D classes (wld ct ad G y171) H → va_D A (wld ct ad G y171) → va_S A s.heap H locs → lv_has ls 16 [(15, .int x21), (14, .int y16), (13, .int y14), (12, .int y12), (11, .int y10.1), (10, .int y6.2), (9, .int y4.2), (8, .int y2.2), (7, .int y1.2), (0, .ref (ad a)), (1, .int p0), (2, .int p1), (3, .int p2), (4, .int p3), (5, .int p4), (6, .int p5)] → W p l e (headSpec wuX9_guess ({ frames := 1, cells := 0, slots := 0, locals := 34 })).room s m ([.ref (ad a), .int p0, .int p1, .int p2, .int p3, .int p4, .int p5] : List Value).toArray below meth c H locs 0 0 (MQ below (va_Qv (fun (_ : Unit) => True) (fun _ t => kE D ct ad G A y t) A) ([.ref (ad a), .int p0, .int p1, .int p2, .int p3, .int p4, .int p5] : List Value).toArray s 0 0 A) (F0 m 318 ls []) := by
                              intro H locs ls hP hD hS hl
                              obtain rfl := Option.some.inj hF
                              exact J169 _ _ _ hP hD hS (lv_sub hl [0, 1, 2, 3, 4, 5, 6, 7, 8, 9, 10, 11, 12, 13, 14, 15] rfl)
                            clear hF
                            have hF := hy171
                            clear hy171
                            refine lv_icmp_ne (tgt := 307) hx hb dX9_guess_274 (by decide) (fun c172 => ?_) (fun c172 => ?_)
                            · rw [if_neg c172] at hF
                              refine lv_aload_n hx hb dX9_guess_307 rfl (lv_at hl 9 rfl) ?_
                              refine lv_iload_n hx hb dX9_guess_308 rfl (lv_at hl 11 rfl) ?_
                              refine lv_iload hx hb dX9_guess_309 (lv_at hl 6 rfl) ?_
                              refine lv_iload hx hb dX9_guess_311 (lv_at hl 5 rfl) ?_
                              refine lv_iload hx hb dX9_guess_313 (lv_at hl 4 rfl) ?_
                              obtain ⟨y173, hy173, hF⟩ := bnd_some hF
                              have hf9 := wA_in hD hA9 hS
                              refine va_callv (va_runV (As := [.int p1, .int y4.2, .int y6.2, .int y10.1]) (rest := []) ⟨hx, hb, hml, hown, hts⟩ (kX9_adoptMedian l D ct ad Z G y15.1 H.size a p1 y4.2 y6.2 y10.1 y173 hc hk hy173) (cwV 4 hts gX9_guess_X9_adoptMedian rfl rfl rfl (by decide +kernel) ⟨Nat.le_of_ble_eq_true rfl, Nat.le_of_ble_eq_true rfl⟩) ⟨fun a U g mk q => by obtain ⟨q0, q1, qP, qK, qD, qZ, qN⟩ := q; exact ⟨q0, q1, qP, va_K.moved (u := U) (U := U.calling g mk a) (Vm.Alike.refl U.vm) qK, qD, sF.moved (u := U) (U := U.calling g mk a) (Vm.Alike.refl U.vm) qZ, nF.same rfl qN⟩, va_recv hK hP (ci := 9) (q0 := a) rfl (wld_o ct ad G y15.1 hc hk (by decide)), fun U hU hW => ⟨rfl, by rw [hU], by rw [hU]; exact hP, va_K.moved hW.alike hK, hD.weaken (fun _ _ _ _ => trivial), by rw [hU]; exact ((hZ.kept hS.2.1).narrow hf9).moved hW.alike, hN.warm hW⟩⟩ rfl rfl hl.1 rfl (lv_room (Nat.le_of_ble_eq_true rfl)) dX9_guess_315 ⟨(Nat.zero_le _), (Nat.zero_le _)⟩) hS (fun q _ h => hf9 q h) hf9 (fun u t H locs ht hvm hw hB hz1 hk1 hS => ?_)
                              obtain ⟨hP, hK9, hD9⟩ := hB
                              rw [ht] at hP
                              have hD := hD9.weaken (fun _ q _ h => hf9 q.1 h)
                              obtain rfl := Option.some.inj hF
                              exact J171 _ _ _ hP hD hS (lv_sub hl [0, 1, 2, 3, 4, 5, 6, 7, 8, 9, 10, 11, 12, 13, 14, 15] rfl)
                            · rw [if_pos c172] at hF
                              refine lv_aload_n hx hb dX9_guess_277 rfl (lv_at hl 9 rfl) ?_
                              refine lv_iload_n hx hb dX9_guess_278 rfl (lv_at hl 11 rfl) ?_
                              refine lv_iload hx hb dX9_guess_279 (lv_at hl 3 rfl) ?_
                              obtain ⟨y174, hy174, hF⟩ := bnd_some hF
                              have J174 : ∀ (H : Heap) (locs : List Loc) (ls : Array Slot), va_P D classes (wld ct ad G y15.1) H → va_D A (wld ct ad G y15.1) → va_S A s.heap H locs → lv_has ls 16 [(15, .int x21), (14, .int y16), (13, .int y14), (12, .int y12), (11, .int y10.1), (10, .int y6.2), (9, .int y4.2), (8, .int y2.2), (7, .int y1.2), (0, .ref (ad a)), (1, .int p0), (2, .int p1), (3, .int p2), (4, .int p3), (5, .int p4), (6, .int p5)] → W p l e (headSpec wuX9_guess ({ frames := 1, cells := 0, slots := 0, locals := 34 })).room s m ([.ref (ad a), .int p0, .int p1, .int p2, .int p3, .int p4, .int p5] : List Value).toArray below meth c H locs 0 0 (MQ below (va_Qv (fun (_ : Unit) => True) (fun _ t => kE D ct ad G A y t) A) ([.ref (ad a), .int p0, .int p1, .int p2, .int p3, .int p4, .int p5] : List Value).toArray s 0 0 A) (F0 m 301 ls [.int y174, .int p1, .ref (ad a)]) := by
                                intro H locs ls hP hD hS hl
                                obtain ⟨y175, hy175, hF⟩ := bnd_some hF
                                have hf9 := wA_in hD hA9 hS
                                refine va_callv (va_runV (As := [.int p1, .int y174]) (rest := []) ⟨hx, hb, hml, hown, hts⟩ (kX9_adopt l D ct ad Z G y15.1 H.size a p1 y174 y175 hc hk hy175) (cwV 2 hts gX9_guess_X9_adopt rfl rfl rfl (by decide +kernel) ⟨Nat.le_of_ble_eq_true rfl, Nat.le_of_ble_eq_true rfl⟩) ⟨fun a U g mk q => by obtain ⟨q0, q1, qP, qK, qD, qZ, qN⟩ := q; exact ⟨q0, q1, qP, va_K.moved (u := U) (U := U.calling g mk a) (Vm.Alike.refl U.vm) qK, qD, sF.moved (u := U) (U := U.calling g mk a) (Vm.Alike.refl U.vm) qZ, nF.same rfl qN⟩, va_recv hK hP (ci := 9) (q0 := a) rfl (wld_o ct ad G y15.1 hc hk (by decide)), fun U hU hW => ⟨rfl, by rw [hU], by rw [hU]; exact hP, va_K.moved hW.alike hK, hD.weaken (fun _ _ _ _ => trivial), by rw [hU]; exact ((hZ.kept hS.2.1).narrow hf9).moved hW.alike, hN.warm hW⟩⟩ rfl rfl hl.1 rfl (lv_room (Nat.le_of_ble_eq_true rfl)) dX9_guess_301 ⟨(Nat.zero_le _), (Nat.zero_le _)⟩) hS (fun q _ h => hf9 q h) hf9 (fun u t H locs ht hvm hw hB hz1 hk1 hS => ?_)
                                obtain ⟨hP, hK9, hD9⟩ := hB
                                rw [ht] at hP
                                have hD := hD9.weaken (fun _ q _ h => hf9 q.1 h)
                                refine lv_goto (tgt := 318) hx hb dX9_guess_304 (by decide) ?_
                                obtain rfl := Option.some.inj hF
                                exact J171 _ _ _ hP hD hS (lv_sub hl [0, 1, 2, 3, 4, 5, 6, 7, 8, 9, 10, 11, 12, 13, 14, 15] rfl)
                              clear hF
                              have hF := hy174
                              clear hy174
                              refine lv_if_eq (tgt := 289) hx hb dX9_guess_281 (by decide) (fun c176 => ?_) (fun c176 => ?_)
                              · rw [if_pos c176] at hF
                                refine lv_iload hx hb dX9_guess_289 (lv_at hl 2 rfl) ?_
                                obtain ⟨y177, hy177, hF⟩ := bnd_some hF
                                have J177 : ∀ (H : Heap) (locs : List Loc) (ls : Array Slot), va_P D classes (wld ct ad G y15.1) H → va_D A (wld ct ad G y15.1) → va_S A s.heap H locs → lv_has ls 16 [(15, .int x21), (14, .int y16), (13, .int y14), (12, .int y12), (11, .int y10.1), (10, .int y6.2), (9, .int y4.2), (8, .int y2.2), (7, .int y1.2), (0, .ref (ad a)), (1, .int p0), (2, .int p1), (3, .int p2), (4, .int p3), (5, .int p4), (6, .int p5)] → W p l e (headSpec wuX9_guess ({ frames := 1, cells := 0, slots := 0, locals := 34 })).room s m ([.ref (ad a), .int p0, .int p1, .int p2, .int p3, .int p4, .int p5] : List Value).toArray below meth c H locs 0 0 (MQ below (va_Qv (fun (_ : Unit) => True) (fun _ t => kE D ct ad G A y t) A) ([.ref (ad a), .int p0, .int p1, .int p2, .int p3, .int p4, .int p5] : List Value).toArray s 0 0 A) (F0 m 301 ls [.int y177, .int p1, .ref (ad a)]) := by
                                  intro H locs ls hP hD hS hl
                                  obtain rfl := Option.some.inj hF
                                  exact J174 _ _ _ hP hD hS (lv_sub hl [0, 1, 2, 3, 4, 5, 6, 7, 8, 9, 10, 11, 12, 13, 14, 15] rfl)
                                clear hF
                                have hF := hy177
                                clear hy177
                                refine lv_if_eq (tgt := 299) hx hb dX9_guess_291 (by decide) (fun c178 => ?_) (fun c178 => ?_)
                                · rw [if_pos c178] at hF
                                  refine lv_iload hx hb dX9_guess_299 (lv_at hl 4 rfl) ?_
                                  obtain rfl := Option.some.inj hF
                                  exact J177 _ _ _ hP hD hS (lv_sub hl [0, 1, 2, 3, 4, 5, 6, 7, 8, 9, 10, 11, 12, 13, 14, 15] rfl)
                                · rw [if_neg c178] at hF
                                  refine lv_iload hx hb dX9_guess_294 (lv_at hl 5 rfl) ?_
                                  refine lv_goto (tgt := 301) hx hb dX9_guess_296 (by decide) ?_
                                  obtain rfl := Option.some.inj hF
                                  exact J177 _ _ _ hP hD hS (lv_sub hl [0, 1, 2, 3, 4, 5, 6, 7, 8, 9, 10, 11, 12, 13, 14, 15] rfl)
                              · rw [if_neg c176] at hF
                                refine lv_iload hx hb dX9_guess_284 (lv_at hl 6 rfl) ?_
                                refine lv_goto (tgt := 301) hx hb dX9_guess_286 (by decide) ?_
                                obtain rfl := Option.some.inj hF
                                exact J174 _ _ _ hP hD hS (lv_sub hl [0, 1, 2, 3, 4, 5, 6, 7, 8, 9, 10, 11, 12, 13, 14, 15] rfl)
                          · rw [if_neg c170] at hF
                            refine lv_iload hx hb dX9_guess_251 (lv_at hl 4 rfl) ?_
                            obtain ⟨y179, hy179, hF⟩ := bnd_some hF
                            have J179 : ∀ (H : Heap) (locs : List Loc) (ls : Array Slot), va_P D classes (wld ct ad G y179) H → va_D A (wld ct ad G y179) → va_S A s.heap H locs → lv_has ls 16 [(15, .int x21), (14, .int y16), (13, .int y14), (12, .int y12), (11, .int y10.1), (10, .int y6.2), (9, .int y4.2), (8, .int y2.2), (7, .int y1.2), (0, .ref (ad a)), (1, .int p0), (2, .int p1), (3, .int p2), (4, .int p3), (5, .int p4), (6, .int p5)] → W p l e (headSpec wuX9_guess ({ frames := 1, cells := 0, slots := 0, locals := 34 })).room s m ([.ref (ad a), .int p0, .int p1, .int p2, .int p3, .int p4, .int p5] : List Value).toArray below meth c H locs 0 0 (MQ below (va_Qv (fun (_ : Unit) => True) (fun _ t => kE D ct ad G A y t) A) ([.ref (ad a), .int p0, .int p1, .int p2, .int p3, .int p4, .int p5] : List Value).toArray s 0 0 A) (F0 m 318 ls []) := by
                              intro H locs ls hP hD hS hl
                              obtain rfl := Option.some.inj hF
                              exact J169 _ _ _ hP hD hS (lv_sub hl [0, 1, 2, 3, 4, 5, 6, 7, 8, 9, 10, 11, 12, 13, 14, 15] rfl)
                            clear hF
                            have hF := hy179
                            clear hy179
                            refine lv_if_ge (tgt := 271) hx hb dX9_guess_253 (by decide) (fun c180 => ?_) (fun c180 => ?_)
                            · rw [if_pos c180] at hF
                              refine lv_iload hx hb dX9_guess_271 (lv_at hl 0 rfl) ?_
                              refine lv_iconst (v := (1 : Int32)) hx hb dX9_guess_273 (by decide) ?_
                              obtain ⟨y181, hy181, hF⟩ := bnd_some hF
                              have J181 : ∀ (H : Heap) (locs : List Loc) (ls : Array Slot), va_P D classes (wld ct ad G y181) H → va_D A (wld ct ad G y181) → va_S A s.heap H locs → lv_has ls 16 [(15, .int x21), (14, .int y16), (13, .int y14), (12, .int y12), (11, .int y10.1), (10, .int y6.2), (9, .int y4.2), (8, .int y2.2), (7, .int y1.2), (0, .ref (ad a)), (1, .int p0), (2, .int p1), (3, .int p2), (4, .int p3), (5, .int p4), (6, .int p5)] → W p l e (headSpec wuX9_guess ({ frames := 1, cells := 0, slots := 0, locals := 34 })).room s m ([.ref (ad a), .int p0, .int p1, .int p2, .int p3, .int p4, .int p5] : List Value).toArray below meth c H locs 0 0 (MQ below (va_Qv (fun (_ : Unit) => True) (fun _ t => kE D ct ad G A y t) A) ([.ref (ad a), .int p0, .int p1, .int p2, .int p3, .int p4, .int p5] : List Value).toArray s 0 0 A) (F0 m 318 ls []) := by
                                intro H locs ls hP hD hS hl
                                obtain rfl := Option.some.inj hF
                                exact J179 _ _ _ hP hD hS (lv_sub hl [0, 1, 2, 3, 4, 5, 6, 7, 8, 9, 10, 11, 12, 13, 14, 15] rfl)
                              clear hF
                              have hF := hy181
                              clear hy181
                              refine lv_icmp_ne (tgt := 307) hx hb dX9_guess_274 (by decide) (fun c182 => ?_) (fun c182 => ?_)
                              · rw [if_neg c182] at hF
                                refine lv_aload_n hx hb dX9_guess_307 rfl (lv_at hl 9 rfl) ?_
                                refine lv_iload_n hx hb dX9_guess_308 rfl (lv_at hl 11 rfl) ?_
                                refine lv_iload hx hb dX9_guess_309 (lv_at hl 6 rfl) ?_
                                refine lv_iload hx hb dX9_guess_311 (lv_at hl 5 rfl) ?_
                                refine lv_iload hx hb dX9_guess_313 (lv_at hl 4 rfl) ?_
                                obtain ⟨y183, hy183, hF⟩ := bnd_some hF
                                have hf9 := wA_in hD hA9 hS
                                refine va_callv (va_runV (As := [.int p1, .int y4.2, .int y6.2, .int y10.1]) (rest := []) ⟨hx, hb, hml, hown, hts⟩ (kX9_adoptMedian l D ct ad Z G y15.1 H.size a p1 y4.2 y6.2 y10.1 y183 hc hk hy183) (cwV 4 hts gX9_guess_X9_adoptMedian rfl rfl rfl (by decide +kernel) ⟨Nat.le_of_ble_eq_true rfl, Nat.le_of_ble_eq_true rfl⟩) ⟨fun a U g mk q => by obtain ⟨q0, q1, qP, qK, qD, qZ, qN⟩ := q; exact ⟨q0, q1, qP, va_K.moved (u := U) (U := U.calling g mk a) (Vm.Alike.refl U.vm) qK, qD, sF.moved (u := U) (U := U.calling g mk a) (Vm.Alike.refl U.vm) qZ, nF.same rfl qN⟩, va_recv hK hP (ci := 9) (q0 := a) rfl (wld_o ct ad G y15.1 hc hk (by decide)), fun U hU hW => ⟨rfl, by rw [hU], by rw [hU]; exact hP, va_K.moved hW.alike hK, hD.weaken (fun _ _ _ _ => trivial), by rw [hU]; exact ((hZ.kept hS.2.1).narrow hf9).moved hW.alike, hN.warm hW⟩⟩ rfl rfl hl.1 rfl (lv_room (Nat.le_of_ble_eq_true rfl)) dX9_guess_315 ⟨(Nat.zero_le _), (Nat.zero_le _)⟩) hS (fun q _ h => hf9 q h) hf9 (fun u t H locs ht hvm hw hB hz1 hk1 hS => ?_)
                                obtain ⟨hP, hK9, hD9⟩ := hB
                                rw [ht] at hP
                                have hD := hD9.weaken (fun _ q _ h => hf9 q.1 h)
                                obtain rfl := Option.some.inj hF
                                exact J181 _ _ _ hP hD hS (lv_sub hl [0, 1, 2, 3, 4, 5, 6, 7, 8, 9, 10, 11, 12, 13, 14, 15] rfl)
                              · rw [if_pos c182] at hF
                                refine lv_aload_n hx hb dX9_guess_277 rfl (lv_at hl 9 rfl) ?_
                                refine lv_iload_n hx hb dX9_guess_278 rfl (lv_at hl 11 rfl) ?_
                                refine lv_iload hx hb dX9_guess_279 (lv_at hl 3 rfl) ?_
                                obtain ⟨y184, hy184, hF⟩ := bnd_some hF
                                have J184 : ∀ (H : Heap) (locs : List Loc) (ls : Array Slot), va_P D classes (wld ct ad G y15.1) H → va_D A (wld ct ad G y15.1) → va_S A s.heap H locs → lv_has ls 16 [(15, .int x21), (14, .int y16), (13, .int y14), (12, .int y12), (11, .int y10.1), (10, .int y6.2), (9, .int y4.2), (8, .int y2.2), (7, .int y1.2), (0, .ref (ad a)), (1, .int p0), (2, .int p1), (3, .int p2), (4, .int p3), (5, .int p4), (6, .int p5)] → W p l e (headSpec wuX9_guess ({ frames := 1, cells := 0, slots := 0, locals := 34 })).room s m ([.ref (ad a), .int p0, .int p1, .int p2, .int p3, .int p4, .int p5] : List Value).toArray below meth c H locs 0 0 (MQ below (va_Qv (fun (_ : Unit) => True) (fun _ t => kE D ct ad G A y t) A) ([.ref (ad a), .int p0, .int p1, .int p2, .int p3, .int p4, .int p5] : List Value).toArray s 0 0 A) (F0 m 301 ls [.int y184, .int p1, .ref (ad a)]) := by
                                  intro H locs ls hP hD hS hl
                                  obtain ⟨y185, hy185, hF⟩ := bnd_some hF
                                  have hf9 := wA_in hD hA9 hS
                                  refine va_callv (va_runV (As := [.int p1, .int y184]) (rest := []) ⟨hx, hb, hml, hown, hts⟩ (kX9_adopt l D ct ad Z G y15.1 H.size a p1 y184 y185 hc hk hy185) (cwV 2 hts gX9_guess_X9_adopt rfl rfl rfl (by decide +kernel) ⟨Nat.le_of_ble_eq_true rfl, Nat.le_of_ble_eq_true rfl⟩) ⟨fun a U g mk q => by obtain ⟨q0, q1, qP, qK, qD, qZ, qN⟩ := q; exact ⟨q0, q1, qP, va_K.moved (u := U) (U := U.calling g mk a) (Vm.Alike.refl U.vm) qK, qD, sF.moved (u := U) (U := U.calling g mk a) (Vm.Alike.refl U.vm) qZ, nF.same rfl qN⟩, va_recv hK hP (ci := 9) (q0 := a) rfl (wld_o ct ad G y15.1 hc hk (by decide)), fun U hU hW => ⟨rfl, by rw [hU], by rw [hU]; exact hP, va_K.moved hW.alike hK, hD.weaken (fun _ _ _ _ => trivial), by rw [hU]; exact ((hZ.kept hS.2.1).narrow hf9).moved hW.alike, hN.warm hW⟩⟩ rfl rfl hl.1 rfl (lv_room (Nat.le_of_ble_eq_true rfl)) dX9_guess_301 ⟨(Nat.zero_le _), (Nat.zero_le _)⟩) hS (fun q _ h => hf9 q h) hf9 (fun u t H locs ht hvm hw hB hz1 hk1 hS => ?_)
                                  obtain ⟨hP, hK9, hD9⟩ := hB
                                  rw [ht] at hP
                                  have hD := hD9.weaken (fun _ q _ h => hf9 q.1 h)
                                  refine lv_goto (tgt := 318) hx hb dX9_guess_304 (by decide) ?_
                                  obtain rfl := Option.some.inj hF
                                  exact J181 _ _ _ hP hD hS (lv_sub hl [0, 1, 2, 3, 4, 5, 6, 7, 8, 9, 10, 11, 12, 13, 14, 15] rfl)
                                clear hF
                                have hF := hy184
                                clear hy184
                                refine lv_if_eq (tgt := 289) hx hb dX9_guess_281 (by decide) (fun c186 => ?_) (fun c186 => ?_)
                                · rw [if_pos c186] at hF
                                  refine lv_iload hx hb dX9_guess_289 (lv_at hl 2 rfl) ?_
                                  obtain ⟨y187, hy187, hF⟩ := bnd_some hF
                                  have J187 : ∀ (H : Heap) (locs : List Loc) (ls : Array Slot), va_P D classes (wld ct ad G y15.1) H → va_D A (wld ct ad G y15.1) → va_S A s.heap H locs → lv_has ls 16 [(15, .int x21), (14, .int y16), (13, .int y14), (12, .int y12), (11, .int y10.1), (10, .int y6.2), (9, .int y4.2), (8, .int y2.2), (7, .int y1.2), (0, .ref (ad a)), (1, .int p0), (2, .int p1), (3, .int p2), (4, .int p3), (5, .int p4), (6, .int p5)] → W p l e (headSpec wuX9_guess ({ frames := 1, cells := 0, slots := 0, locals := 34 })).room s m ([.ref (ad a), .int p0, .int p1, .int p2, .int p3, .int p4, .int p5] : List Value).toArray below meth c H locs 0 0 (MQ below (va_Qv (fun (_ : Unit) => True) (fun _ t => kE D ct ad G A y t) A) ([.ref (ad a), .int p0, .int p1, .int p2, .int p3, .int p4, .int p5] : List Value).toArray s 0 0 A) (F0 m 301 ls [.int y187, .int p1, .ref (ad a)]) := by
                                    intro H locs ls hP hD hS hl
                                    obtain rfl := Option.some.inj hF
                                    exact J184 _ _ _ hP hD hS (lv_sub hl [0, 1, 2, 3, 4, 5, 6, 7, 8, 9, 10, 11, 12, 13, 14, 15] rfl)
                                  clear hF
                                  have hF := hy187
                                  clear hy187
                                  refine lv_if_eq (tgt := 299) hx hb dX9_guess_291 (by decide) (fun c188 => ?_) (fun c188 => ?_)
                                  · rw [if_pos c188] at hF
                                    refine lv_iload hx hb dX9_guess_299 (lv_at hl 4 rfl) ?_
                                    obtain rfl := Option.some.inj hF
                                    exact J187 _ _ _ hP hD hS (lv_sub hl [0, 1, 2, 3, 4, 5, 6, 7, 8, 9, 10, 11, 12, 13, 14, 15] rfl)
                                  · rw [if_neg c188] at hF
                                    refine lv_iload hx hb dX9_guess_294 (lv_at hl 5 rfl) ?_
                                    refine lv_goto (tgt := 301) hx hb dX9_guess_296 (by decide) ?_
                                    obtain rfl := Option.some.inj hF
                                    exact J187 _ _ _ hP hD hS (lv_sub hl [0, 1, 2, 3, 4, 5, 6, 7, 8, 9, 10, 11, 12, 13, 14, 15] rfl)
                                · rw [if_neg c186] at hF
                                  refine lv_iload hx hb dX9_guess_284 (lv_at hl 6 rfl) ?_
                                  refine lv_goto (tgt := 301) hx hb dX9_guess_286 (by decide) ?_
                                  obtain rfl := Option.some.inj hF
                                  exact J184 _ _ _ hP hD hS (lv_sub hl [0, 1, 2, 3, 4, 5, 6, 7, 8, 9, 10, 11, 12, 13, 14, 15] rfl)
                            · rw [if_neg c180] at hF
                              refine lv_iload hx hb dX9_guess_256 (lv_at hl 6 rfl) ?_
                              obtain ⟨y189, hy189, hF⟩ := bnd_some hF
                              have J189 : ∀ (H : Heap) (locs : List Loc) (ls : Array Slot), va_P D classes (wld ct ad G y189) H → va_D A (wld ct ad G y189) → va_S A s.heap H locs → lv_has ls 16 [(15, .int x21), (14, .int y16), (13, .int y14), (12, .int y12), (11, .int y10.1), (10, .int y6.2), (9, .int y4.2), (8, .int y2.2), (7, .int y1.2), (0, .ref (ad a)), (1, .int p0), (2, .int p1), (3, .int p2), (4, .int p3), (5, .int p4), (6, .int p5)] → W p l e (headSpec wuX9_guess ({ frames := 1, cells := 0, slots := 0, locals := 34 })).room s m ([.ref (ad a), .int p0, .int p1, .int p2, .int p3, .int p4, .int p5] : List Value).toArray below meth c H locs 0 0 (MQ below (va_Qv (fun (_ : Unit) => True) (fun _ t => kE D ct ad G A y t) A) ([.ref (ad a), .int p0, .int p1, .int p2, .int p3, .int p4, .int p5] : List Value).toArray s 0 0 A) (F0 m 318 ls []) := by
                                intro H locs ls hP hD hS hl
                                obtain rfl := Option.some.inj hF
                                exact J179 _ _ _ hP hD hS (lv_sub hl [0, 1, 2, 3, 4, 5, 6, 7, 8, 9, 10, 11, 12, 13, 14, 15] rfl)
                              clear hF
                              have hF := hy189
                              clear hy189
                              refine lv_if_lt (tgt := 271) hx hb dX9_guess_258 (by decide) (fun c190 => ?_) (fun c190 => ?_)
                              · rw [if_pos c190] at hF
                                refine lv_iload hx hb dX9_guess_271 (lv_at hl 0 rfl) ?_
                                refine lv_iconst (v := (1 : Int32)) hx hb dX9_guess_273 (by decide) ?_
                                obtain ⟨y191, hy191, hF⟩ := bnd_some hF
                                have J191 : ∀ (H : Heap) (locs : List Loc) (ls : Array Slot), va_P D classes (wld ct ad G y191) H → va_D A (wld ct ad G y191) → va_S A s.heap H locs → lv_has ls 16 [(15, .int x21), (14, .int y16), (13, .int y14), (12, .int y12), (11, .int y10.1), (10, .int y6.2), (9, .int y4.2), (8, .int y2.2), (7, .int y1.2), (0, .ref (ad a)), (1, .int p0), (2, .int p1), (3, .int p2), (4, .int p3), (5, .int p4), (6, .int p5)] → W p l e (headSpec wuX9_guess ({ frames := 1, cells := 0, slots := 0, locals := 34 })).room s m ([.ref (ad a), .int p0, .int p1, .int p2, .int p3, .int p4, .int p5] : List Value).toArray below meth c H locs 0 0 (MQ below (va_Qv (fun (_ : Unit) => True) (fun _ t => kE D ct ad G A y t) A) ([.ref (ad a), .int p0, .int p1, .int p2, .int p3, .int p4, .int p5] : List Value).toArray s 0 0 A) (F0 m 318 ls []) := by
                                  intro H locs ls hP hD hS hl
                                  obtain rfl := Option.some.inj hF
                                  exact J189 _ _ _ hP hD hS (lv_sub hl [0, 1, 2, 3, 4, 5, 6, 7, 8, 9, 10, 11, 12, 13, 14, 15] rfl)
                                clear hF
                                have hF := hy191
                                clear hy191
                                refine lv_icmp_ne (tgt := 307) hx hb dX9_guess_274 (by decide) (fun c192 => ?_) (fun c192 => ?_)
                                · rw [if_neg c192] at hF
                                  refine lv_aload_n hx hb dX9_guess_307 rfl (lv_at hl 9 rfl) ?_
                                  refine lv_iload_n hx hb dX9_guess_308 rfl (lv_at hl 11 rfl) ?_
                                  refine lv_iload hx hb dX9_guess_309 (lv_at hl 6 rfl) ?_
                                  refine lv_iload hx hb dX9_guess_311 (lv_at hl 5 rfl) ?_
                                  refine lv_iload hx hb dX9_guess_313 (lv_at hl 4 rfl) ?_
                                  obtain ⟨y193, hy193, hF⟩ := bnd_some hF
                                  have hf9 := wA_in hD hA9 hS
                                  refine va_callv (va_runV (As := [.int p1, .int y4.2, .int y6.2, .int y10.1]) (rest := []) ⟨hx, hb, hml, hown, hts⟩ (kX9_adoptMedian l D ct ad Z G y15.1 H.size a p1 y4.2 y6.2 y10.1 y193 hc hk hy193) (cwV 4 hts gX9_guess_X9_adoptMedian rfl rfl rfl (by decide +kernel) ⟨Nat.le_of_ble_eq_true rfl, Nat.le_of_ble_eq_true rfl⟩) ⟨fun a U g mk q => by obtain ⟨q0, q1, qP, qK, qD, qZ, qN⟩ := q; exact ⟨q0, q1, qP, va_K.moved (u := U) (U := U.calling g mk a) (Vm.Alike.refl U.vm) qK, qD, sF.moved (u := U) (U := U.calling g mk a) (Vm.Alike.refl U.vm) qZ, nF.same rfl qN⟩, va_recv hK hP (ci := 9) (q0 := a) rfl (wld_o ct ad G y15.1 hc hk (by decide)), fun U hU hW => ⟨rfl, by rw [hU], by rw [hU]; exact hP, va_K.moved hW.alike hK, hD.weaken (fun _ _ _ _ => trivial), by rw [hU]; exact ((hZ.kept hS.2.1).narrow hf9).moved hW.alike, hN.warm hW⟩⟩ rfl rfl hl.1 rfl (lv_room (Nat.le_of_ble_eq_true rfl)) dX9_guess_315 ⟨(Nat.zero_le _), (Nat.zero_le _)⟩) hS (fun q _ h => hf9 q h) hf9 (fun u t H locs ht hvm hw hB hz1 hk1 hS => ?_)
                                  obtain ⟨hP, hK9, hD9⟩ := hB
                                  rw [ht] at hP
                                  have hD := hD9.weaken (fun _ q _ h => hf9 q.1 h)
                                  obtain rfl := Option.some.inj hF
                                  exact J191 _ _ _ hP hD hS (lv_sub hl [0, 1, 2, 3, 4, 5, 6, 7, 8, 9, 10, 11, 12, 13, 14, 15] rfl)
                                · rw [if_pos c192] at hF
                                  refine lv_aload_n hx hb dX9_guess_277 rfl (lv_at hl 9 rfl) ?_
                                  refine lv_iload_n hx hb dX9_guess_278 rfl (lv_at hl 11 rfl) ?_
                                  refine lv_iload hx hb dX9_guess_279 (lv_at hl 3 rfl) ?_
                                  obtain ⟨y194, hy194, hF⟩ := bnd_some hF
                                  have J194 : ∀ (H : Heap) (locs : List Loc) (ls : Array Slot), va_P D classes (wld ct ad G y15.1) H → va_D A (wld ct ad G y15.1) → va_S A s.heap H locs → lv_has ls 16 [(15, .int x21), (14, .int y16), (13, .int y14), (12, .int y12), (11, .int y10.1), (10, .int y6.2), (9, .int y4.2), (8, .int y2.2), (7, .int y1.2), (0, .ref (ad a)), (1, .int p0), (2, .int p1), (3, .int p2), (4, .int p3), (5, .int p4), (6, .int p5)] → W p l e (headSpec wuX9_guess ({ frames := 1, cells := 0, slots := 0, locals := 34 })).room s m ([.ref (ad a), .int p0, .int p1, .int p2, .int p3, .int p4, .int p5] : List Value).toArray below meth c H locs 0 0 (MQ below (va_Qv (fun (_ : Unit) => True) (fun _ t => kE D ct ad G A y t) A) ([.ref (ad a), .int p0, .int p1, .int p2, .int p3, .int p4, .int p5] : List Value).toArray s 0 0 A) (F0 m 301 ls [.int y194, .int p1, .ref (ad a)]) := by
                                    intro H locs ls hP hD hS hl
                                    obtain ⟨y195, hy195, hF⟩ := bnd_some hF
                                    have hf9 := wA_in hD hA9 hS
                                    refine va_callv (va_runV (As := [.int p1, .int y194]) (rest := []) ⟨hx, hb, hml, hown, hts⟩ (kX9_adopt l D ct ad Z G y15.1 H.size a p1 y194 y195 hc hk hy195) (cwV 2 hts gX9_guess_X9_adopt rfl rfl rfl (by decide +kernel) ⟨Nat.le_of_ble_eq_true rfl, Nat.le_of_ble_eq_true rfl⟩) ⟨fun a U g mk q => by obtain ⟨q0, q1, qP, qK, qD, qZ, qN⟩ := q; exact ⟨q0, q1, qP, va_K.moved (u := U) (U := U.calling g mk a) (Vm.Alike.refl U.vm) qK, qD, sF.moved (u := U) (U := U.calling g mk a) (Vm.Alike.refl U.vm) qZ, nF.same rfl qN⟩, va_recv hK hP (ci := 9) (q0 := a) rfl (wld_o ct ad G y15.1 hc hk (by decide)), fun U hU hW => ⟨rfl, by rw [hU], by rw [hU]; exact hP, va_K.moved hW.alike hK, hD.weaken (fun _ _ _ _ => trivial), by rw [hU]; exact ((hZ.kept hS.2.1).narrow hf9).moved hW.alike, hN.warm hW⟩⟩ rfl rfl hl.1 rfl (lv_room (Nat.le_of_ble_eq_true rfl)) dX9_guess_301 ⟨(Nat.zero_le _), (Nat.zero_le _)⟩) hS (fun q _ h => hf9 q h) hf9 (fun u t H locs ht hvm hw hB hz1 hk1 hS => ?_)
                                    obtain ⟨hP, hK9, hD9⟩ := hB
                                    rw [ht] at hP
                                    have hD := hD9.weaken (fun _ q _ h => hf9 q.1 h)
                                    refine lv_goto (tgt := 318) hx hb dX9_guess_304 (by decide) ?_
                                    obtain rfl := Option.some.inj hF
                                    exact J191 _ _ _ hP hD hS (lv_sub hl [0, 1, 2, 3, 4, 5, 6, 7, 8, 9, 10, 11, 12, 13, 14, 15] rfl)
                                  clear hF
                                  have hF := hy194
                                  clear hy194
                                  refine lv_if_eq (tgt := 289) hx hb dX9_guess_281 (by decide) (fun c196 => ?_) (fun c196 => ?_)
                                  · rw [if_pos c196] at hF
                                    refine lv_iload hx hb dX9_guess_289 (lv_at hl 2 rfl) ?_
                                    obtain ⟨y197, hy197, hF⟩ := bnd_some hF
                                    have J197 : ∀ (H : Heap) (locs : List Loc) (ls : Array Slot), va_P D classes (wld ct ad G y15.1) H → va_D A (wld ct ad G y15.1) → va_S A s.heap H locs → lv_has ls 16 [(15, .int x21), (14, .int y16), (13, .int y14), (12, .int y12), (11, .int y10.1), (10, .int y6.2), (9, .int y4.2), (8, .int y2.2), (7, .int y1.2), (0, .ref (ad a)), (1, .int p0), (2, .int p1), (3, .int p2), (4, .int p3), (5, .int p4), (6, .int p5)] → W p l e (headSpec wuX9_guess ({ frames := 1, cells := 0, slots := 0, locals := 34 })).room s m ([.ref (ad a), .int p0, .int p1, .int p2, .int p3, .int p4, .int p5] : List Value).toArray below meth c H locs 0 0 (MQ below (va_Qv (fun (_ : Unit) => True) (fun _ t => kE D ct ad G A y t) A) ([.ref (ad a), .int p0, .int p1, .int p2, .int p3, .int p4, .int p5] : List Value).toArray s 0 0 A) (F0 m 301 ls [.int y197, .int p1, .ref (ad a)]) := by
                                      intro H locs ls hP hD hS hl
                                      obtain rfl := Option.some.inj hF
                                      exact J194 _ _ _ hP hD hS (lv_sub hl [0, 1, 2, 3, 4, 5, 6, 7, 8, 9, 10, 11, 12, 13, 14, 15] rfl)
                                    clear hF
                                    have hF := hy197
                                    clear hy197
                                    refine lv_if_eq (tgt := 299) hx hb dX9_guess_291 (by decide) (fun c198 => ?_) (fun c198 => ?_)
                                    · rw [if_pos c198] at hF
                                      refine lv_iload hx hb dX9_guess_299 (lv_at hl 4 rfl) ?_
                                      obtain rfl := Option.some.inj hF
                                      exact J197 _ _ _ hP hD hS (lv_sub hl [0, 1, 2, 3, 4, 5, 6, 7, 8, 9, 10, 11, 12, 13, 14, 15] rfl)
                                    · rw [if_neg c198] at hF
                                      refine lv_iload hx hb dX9_guess_294 (lv_at hl 5 rfl) ?_
                                      refine lv_goto (tgt := 301) hx hb dX9_guess_296 (by decide) ?_
                                      obtain rfl := Option.some.inj hF
                                      exact J197 _ _ _ hP hD hS (lv_sub hl [0, 1, 2, 3, 4, 5, 6, 7, 8, 9, 10, 11, 12, 13, 14, 15] rfl)
                                  · rw [if_neg c196] at hF
                                    refine lv_iload hx hb dX9_guess_284 (lv_at hl 6 rfl) ?_
                                    refine lv_goto (tgt := 301) hx hb dX9_guess_286 (by decide) ?_
                                    obtain rfl := Option.some.inj hF
                                    exact J194 _ _ _ hP hD hS (lv_sub hl [0, 1, 2, 3, 4, 5, 6, 7, 8, 9, 10, 11, 12, 13, 14, 15] rfl)
                              · rw [if_neg c190] at hF
                                refine lv_aload_n hx hb dX9_guess_261 rfl (lv_at hl 9 rfl) ?_
                                refine lv_iload_n hx hb dX9_guess_262 rfl (lv_at hl 11 rfl) ?_
                                refine lv_iload hx hb dX9_guess_263 (lv_at hl 6 rfl) ?_
                                obtain ⟨y199, hy199, hF⟩ := bnd_some hF
                                have hf9 := wA_in hD hA9 hS
                                refine va_callv (va_runV (As := [.int p1, .int y4.2]) (rest := []) ⟨hx, hb, hml, hown, hts⟩ (kX9_adopt l D ct ad Z G y15.1 H.size a p1 y4.2 y199 hc hk hy199) (cwV 2 hts gX9_guess_X9_adopt rfl rfl rfl (by decide +kernel) ⟨Nat.le_of_ble_eq_true rfl, Nat.le_of_ble_eq_true rfl⟩) ⟨fun a U g mk q => by obtain ⟨q0, q1, qP, qK, qD, qZ, qN⟩ := q; exact ⟨q0, q1, qP, va_K.moved (u := U) (U := U.calling g mk a) (Vm.Alike.refl U.vm) qK, qD, sF.moved (u := U) (U := U.calling g mk a) (Vm.Alike.refl U.vm) qZ, nF.same rfl qN⟩, va_recv hK hP (ci := 9) (q0 := a) rfl (wld_o ct ad G y15.1 hc hk (by decide)), fun U hU hW => ⟨rfl, by rw [hU], by rw [hU]; exact hP, va_K.moved hW.alike hK, hD.weaken (fun _ _ _ _ => trivial), by rw [hU]; exact ((hZ.kept hS.2.1).narrow hf9).moved hW.alike, hN.warm hW⟩⟩ rfl rfl hl.1 rfl (lv_room (Nat.le_of_ble_eq_true rfl)) dX9_guess_265 ⟨(Nat.zero_le _), (Nat.zero_le _)⟩) hS (fun q _ h => hf9 q h) hf9 (fun u t H locs ht hvm hw hB hz1 hk1 hS => ?_)
                                obtain ⟨hP, hK9, hD9⟩ := hB
                                rw [ht] at hP
                                have hD := hD9.weaken (fun _ q _ h => hf9 q.1 h)
                                refine lv_goto (tgt := 318) hx hb dX9_guess_268 (by decide) ?_
                                obtain rfl := Option.some.inj hF
                                exact J189 _ _ _ hP hD hS (lv_sub hl [0, 1, 2, 3, 4, 5, 6, 7, 8, 9, 10, 11, 12, 13, 14, 15] rfl)
                        · rw [if_pos c168] at hF
                          refine lv_iload hx hb dX9_guess_231 (lv_at hl 1 rfl) ?_
                          obtain ⟨y200, hy200, hF⟩ := bnd_some hF
                          have J200 : ∀ (H : Heap) (locs : List Loc) (ls : Array Slot), va_P D classes (wld ct ad G y200) H → va_D A (wld ct ad G y200) → va_S A s.heap H locs → lv_has ls 16 [(15, .int x21), (14, .int y16), (13, .int y14), (12, .int y12), (11, .int y10.1), (10, .int y6.2), (9, .int y4.2), (8, .int y2.2), (7, .int y1.2), (0, .ref (ad a)), (1, .int p0), (2, .int p1), (3, .int p2), (4, .int p3), (5, .int p4), (6, .int p5)] → W p l e (headSpec wuX9_guess ({ frames := 1, cells := 0, slots := 0, locals := 34 })).room s m ([.ref (ad a), .int p0, .int p1, .int p2, .int p3, .int p4, .int p5] : List Value).toArray below meth c H locs 0 0 (MQ below (va_Qv (fun (_ : Unit) => True) (fun _ t => kE D ct ad G A y t) A) ([.ref (ad a), .int p0, .int p1, .int p2, .int p3, .int p4, .int p5] : List Value).toArray s 0 0 A) (F0 m 318 ls []) := by
                            intro H locs ls hP hD hS hl
                            obtain rfl := Option.some.inj hF
                            exact J167 _ _ _ hP hD hS (lv_sub hl [0, 1, 2, 3, 4, 5, 6, 7, 8, 9, 10, 11, 12, 13, 14, 15] rfl)
                          clear hF
                          have hF := hy200
                          clear hy200
                          refine lv_if_eq (tgt := 246) hx hb dX9_guess_233 (by decide) (fun c201 => ?_) (fun c201 => ?_)
                          · rw [if_pos c201] at hF
                            refine lv_iload hx hb dX9_guess_246 (lv_at hl 5 rfl) ?_
                            obtain ⟨y202, hy202, hF⟩ := bnd_some hF
                            have J202 : ∀ (H : Heap) (locs : List Loc) (ls : Array Slot), va_P D classes (wld ct ad G y202) H → va_D A (wld ct ad G y202) → va_S A s.heap H locs → lv_has ls 16 [(15, .int x21), (14, .int y16), (13, .int y14), (12, .int y12), (11, .int y10.1), (10, .int y6.2), (9, .int y4.2), (8, .int y2.2), (7, .int y1.2), (0, .ref (ad a)), (1, .int p0), (2, .int p1), (3, .int p2), (4, .int p3), (5, .int p4), (6, .int p5)] → W p l e (headSpec wuX9_guess ({ frames := 1, cells := 0, slots := 0, locals := 34 })).room s m ([.ref (ad a), .int p0, .int p1, .int p2, .int p3, .int p4, .int p5] : List Value).toArray below meth c H locs 0 0 (MQ below (va_Qv (fun (_ : Unit) => True) (fun _ t => kE D ct ad G A y t) A) ([.ref (ad a), .int p0, .int p1, .int p2, .int p3, .int p4, .int p5] : List Value).toArray s 0 0 A) (F0 m 318 ls []) := by
                              intro H locs ls hP hD hS hl
                              obtain rfl := Option.some.inj hF
                              exact J200 _ _ _ hP hD hS (lv_sub hl [0, 1, 2, 3, 4, 5, 6, 7, 8, 9, 10, 11, 12, 13, 14, 15] rfl)
                            clear hF
                            have hF := hy202
                            clear hy202
                            refine lv_if_ge (tgt := 271) hx hb dX9_guess_248 (by decide) (fun c203 => ?_) (fun c203 => ?_)
                            · rw [if_pos c203] at hF
                              refine lv_iload hx hb dX9_guess_271 (lv_at hl 0 rfl) ?_
                              refine lv_iconst (v := (1 : Int32)) hx hb dX9_guess_273 (by decide) ?_
                              obtain ⟨y204, hy204, hF⟩ := bnd_some hF
                              have J204 : ∀ (H : Heap) (locs : List Loc) (ls : Array Slot), va_P D classes (wld ct ad G y204) H → va_D A (wld ct ad G y204) → va_S A s.heap H locs → lv_has ls 16 [(15, .int x21), (14, .int y16), (13, .int y14), (12, .int y12), (11, .int y10.1), (10, .int y6.2), (9, .int y4.2), (8, .int y2.2), (7, .int y1.2), (0, .ref (ad a)), (1, .int p0), (2, .int p1), (3, .int p2), (4, .int p3), (5, .int p4), (6, .int p5)] → W p l e (headSpec wuX9_guess ({ frames := 1, cells := 0, slots := 0, locals := 34 })).room s m ([.ref (ad a), .int p0, .int p1, .int p2, .int p3, .int p4, .int p5] : List Value).toArray below meth c H locs 0 0 (MQ below (va_Qv (fun (_ : Unit) => True) (fun _ t => kE D ct ad G A y t) A) ([.ref (ad a), .int p0, .int p1, .int p2, .int p3, .int p4, .int p5] : List Value).toArray s 0 0 A) (F0 m 318 ls []) := by
                                intro H locs ls hP hD hS hl
                                obtain rfl := Option.some.inj hF
                                exact J202 _ _ _ hP hD hS (lv_sub hl [0, 1, 2, 3, 4, 5, 6, 7, 8, 9, 10, 11, 12, 13, 14, 15] rfl)
                              clear hF
                              have hF := hy204
                              clear hy204
                              refine lv_icmp_ne (tgt := 307) hx hb dX9_guess_274 (by decide) (fun c205 => ?_) (fun c205 => ?_)
                              · rw [if_neg c205] at hF
                                refine lv_aload_n hx hb dX9_guess_307 rfl (lv_at hl 9 rfl) ?_
                                refine lv_iload_n hx hb dX9_guess_308 rfl (lv_at hl 11 rfl) ?_
                                refine lv_iload hx hb dX9_guess_309 (lv_at hl 6 rfl) ?_
                                refine lv_iload hx hb dX9_guess_311 (lv_at hl 5 rfl) ?_
                                refine lv_iload hx hb dX9_guess_313 (lv_at hl 4 rfl) ?_
                                obtain ⟨y206, hy206, hF⟩ := bnd_some hF
                                have hf9 := wA_in hD hA9 hS
                                refine va_callv (va_runV (As := [.int p1, .int y4.2, .int y6.2, .int y10.1]) (rest := []) ⟨hx, hb, hml, hown, hts⟩ (kX9_adoptMedian l D ct ad Z G y15.1 H.size a p1 y4.2 y6.2 y10.1 y206 hc hk hy206) (cwV 4 hts gX9_guess_X9_adoptMedian rfl rfl rfl (by decide +kernel) ⟨Nat.le_of_ble_eq_true rfl, Nat.le_of_ble_eq_true rfl⟩) ⟨fun a U g mk q => by obtain ⟨q0, q1, qP, qK, qD, qZ, qN⟩ := q; exact ⟨q0, q1, qP, va_K.moved (u := U) (U := U.calling g mk a) (Vm.Alike.refl U.vm) qK, qD, sF.moved (u := U) (U := U.calling g mk a) (Vm.Alike.refl U.vm) qZ, nF.same rfl qN⟩, va_recv hK hP (ci := 9) (q0 := a) rfl (wld_o ct ad G y15.1 hc hk (by decide)), fun U hU hW => ⟨rfl, by rw [hU], by rw [hU]; exact hP, va_K.moved hW.alike hK, hD.weaken (fun _ _ _ _ => trivial), by rw [hU]; exact ((hZ.kept hS.2.1).narrow hf9).moved hW.alike, hN.warm hW⟩⟩ rfl rfl hl.1 rfl (lv_room (Nat.le_of_ble_eq_true rfl)) dX9_guess_315 ⟨(Nat.zero_le _), (Nat.zero_le _)⟩) hS (fun q _ h => hf9 q h) hf9 (fun u t H locs ht hvm hw hB hz1 hk1 hS => ?_)
                                obtain ⟨hP, hK9, hD9⟩ := hB
                                rw [ht] at hP
                                have hD := hD9.weaken (fun _ q _ h => hf9 q.1 h)
                                obtain rfl := Option.some.inj hF
                                exact J204 _ _ _ hP hD hS (lv_sub hl [0, 1, 2, 3, 4, 5, 6, 7, 8, 9, 10, 11, 12, 13, 14, 15] rfl)
                              · rw [if_pos c205] at hF
                                refine lv_aload_n hx hb dX9_guess_277 rfl (lv_at hl 9 rfl) ?_
                                refine lv_iload_n hx hb dX9_guess_278 rfl (lv_at hl 11 rfl) ?_
                                refine lv_iload hx hb dX9_guess_279 (lv_at hl 3 rfl) ?_
                                obtain ⟨y207, hy207, hF⟩ := bnd_some hF
                                have J207 : ∀ (H : Heap) (locs : List Loc) (ls : Array Slot), va_P D classes (wld ct ad G y15.1) H → va_D A (wld ct ad G y15.1) → va_S A s.heap H locs → lv_has ls 16 [(15, .int x21), (14, .int y16), (13, .int y14), (12, .int y12), (11, .int y10.1), (10, .int y6.2), (9, .int y4.2), (8, .int y2.2), (7, .int y1.2), (0, .ref (ad a)), (1, .int p0), (2, .int p1), (3, .int p2), (4, .int p3), (5, .int p4), (6, .int p5)] → W p l e (headSpec wuX9_guess ({ frames := 1, cells := 0, slots := 0, locals := 34 })).room s m ([.ref (ad a), .int p0, .int p1, .int p2, .int p3, .int p4, .int p5] : List Value).toArray below meth c H locs 0 0 (MQ below (va_Qv (fun (_ : Unit) => True) (fun _ t => kE D ct ad G A y t) A) ([.ref (ad a), .int p0, .int p1, .int p2, .int p3, .int p4, .int p5] : List Value).toArray s 0 0 A) (F0 m 301 ls [.int y207, .int p1, .ref (ad a)]) := by
                                  intro H locs ls hP hD hS hl
                                  obtain ⟨y208, hy208, hF⟩ := bnd_some hF
                                  have hf9 := wA_in hD hA9 hS
                                  refine va_callv (va_runV (As := [.int p1, .int y207]) (rest := []) ⟨hx, hb, hml, hown, hts⟩ (kX9_adopt l D ct ad Z G y15.1 H.size a p1 y207 y208 hc hk hy208) (cwV 2 hts gX9_guess_X9_adopt rfl rfl rfl (by decide +kernel) ⟨Nat.le_of_ble_eq_true rfl, Nat.le_of_ble_eq_true rfl⟩) ⟨fun a U g mk q => by obtain ⟨q0, q1, qP, qK, qD, qZ, qN⟩ := q; exact ⟨q0, q1, qP, va_K.moved (u := U) (U := U.calling g mk a) (Vm.Alike.refl U.vm) qK, qD, sF.moved (u := U) (U := U.calling g mk a) (Vm.Alike.refl U.vm) qZ, nF.same rfl qN⟩, va_recv hK hP (ci := 9) (q0 := a) rfl (wld_o ct ad G y15.1 hc hk (by decide)), fun U hU hW => ⟨rfl, by rw [hU], by rw [hU]; exact hP, va_K.moved hW.alike hK, hD.weaken (fun _ _ _ _ => trivial), by rw [hU]; exact ((hZ.kept hS.2.1).narrow hf9).moved hW.alike, hN.warm hW⟩⟩ rfl rfl hl.1 rfl (lv_room (Nat.le_of_ble_eq_true rfl)) dX9_guess_301 ⟨(Nat.zero_le _), (Nat.zero_le _)⟩) hS (fun q _ h => hf9 q h) hf9 (fun u t H locs ht hvm hw hB hz1 hk1 hS => ?_)
                                  obtain ⟨hP, hK9, hD9⟩ := hB
                                  rw [ht] at hP
                                  have hD := hD9.weaken (fun _ q _ h => hf9 q.1 h)
                                  refine lv_goto (tgt := 318) hx hb dX9_guess_304 (by decide) ?_
                                  obtain rfl := Option.some.inj hF
                                  exact J204 _ _ _ hP hD hS (lv_sub hl [0, 1, 2, 3, 4, 5, 6, 7, 8, 9, 10, 11, 12, 13, 14, 15] rfl)
                                clear hF
                                have hF := hy207
                                clear hy207
                                refine lv_if_eq (tgt := 289) hx hb dX9_guess_281 (by decide) (fun c209 => ?_) (fun c209 => ?_)
                                · rw [if_pos c209] at hF
                                  refine lv_iload hx hb dX9_guess_289 (lv_at hl 2 rfl) ?_
                                  obtain ⟨y210, hy210, hF⟩ := bnd_some hF
                                  have J210 : ∀ (H : Heap) (locs : List Loc) (ls : Array Slot), va_P D classes (wld ct ad G y15.1) H → va_D A (wld ct ad G y15.1) → va_S A s.heap H locs → lv_has ls 16 [(15, .int x21), (14, .int y16), (13, .int y14), (12, .int y12), (11, .int y10.1), (10, .int y6.2), (9, .int y4.2), (8, .int y2.2), (7, .int y1.2), (0, .ref (ad a)), (1, .int p0), (2, .int p1), (3, .int p2), (4, .int p3), (5, .int p4), (6, .int p5)] → W p l e (headSpec wuX9_guess ({ frames := 1, cells := 0, slots := 0, locals := 34 })).room s m ([.ref (ad a), .int p0, .int p1, .int p2, .int p3, .int p4, .int p5] : List Value).toArray below meth c H locs 0 0 (MQ below (va_Qv (fun (_ : Unit) => True) (fun _ t => kE D ct ad G A y t) A) ([.ref (ad a), .int p0, .int p1, .int p2, .int p3, .int p4, .int p5] : List Value).toArray s 0 0 A) (F0 m 301 ls [.int y210, .int p1, .ref (ad a)]) := by
                                    intro H locs ls hP hD hS hl
                                    obtain rfl := Option.some.inj hF
                                    exact J207 _ _ _ hP hD hS (lv_sub hl [0, 1, 2, 3, 4, 5, 6, 7, 8, 9, 10, 11, 12, 13, 14, 15] rfl)
                                  clear hF
                                  have hF := hy210
                                  clear hy210
                                  refine lv_if_eq (tgt := 299) hx hb dX9_guess_291 (by decide) (fun c211 => ?_) (fun c211 => ?_)
                                  · rw [if_pos c211] at hF
                                    refine lv_iload hx hb dX9_guess_299 (lv_at hl 4 rfl) ?_
                                    obtain rfl := Option.some.inj hF
                                    exact J210 _ _ _ hP hD hS (lv_sub hl [0, 1, 2, 3, 4, 5, 6, 7, 8, 9, 10, 11, 12, 13, 14, 15] rfl)
                                  · rw [if_neg c211] at hF
                                    refine lv_iload hx hb dX9_guess_294 (lv_at hl 5 rfl) ?_
                                    refine lv_goto (tgt := 301) hx hb dX9_guess_296 (by decide) ?_
                                    obtain rfl := Option.some.inj hF
                                    exact J210 _ _ _ hP hD hS (lv_sub hl [0, 1, 2, 3, 4, 5, 6, 7, 8, 9, 10, 11, 12, 13, 14, 15] rfl)
                                · rw [if_neg c209] at hF
                                  refine lv_iload hx hb dX9_guess_284 (lv_at hl 6 rfl) ?_
                                  refine lv_goto (tgt := 301) hx hb dX9_guess_286 (by decide) ?_
                                  obtain rfl := Option.some.inj hF
                                  exact J207 _ _ _ hP hD hS (lv_sub hl [0, 1, 2, 3, 4, 5, 6, 7, 8, 9, 10, 11, 12, 13, 14, 15] rfl)
                            · rw [if_neg c203] at hF
                              refine lv_iload hx hb dX9_guess_251 (lv_at hl 4 rfl) ?_
                              obtain ⟨y212, hy212, hF⟩ := bnd_some hF
                              have J212 : ∀ (H : Heap) (locs : List Loc) (ls : Array Slot), va_P D classes (wld ct ad G y212) H → va_D A (wld ct ad G y212) → va_S A s.heap H locs → lv_has ls 16 [(15, .int x21), (14, .int y16), (13, .int y14), (12, .int y12), (11, .int y10.1), (10, .int y6.2), (9, .int y4.2), (8, .int y2.2), (7, .int y1.2), (0, .ref (ad a)), (1, .int p0), (2, .int p1), (3, .int p2), (4, .int p3), (5, .int p4), (6, .int p5)] → W p l e (headSpec wuX9_guess ({ frames := 1, cells := 0, slots := 0, locals := 34 })).room s m ([.ref (ad a), .int p0, .int p1, .int p2, .int p3, .int p4, .int p5] : List Value).toArray below meth c H locs 0 0 (MQ below (va_Qv (fun (_ : Unit) => True) (fun _ t => kE D ct ad G A y t) A) ([.ref (ad a), .int p0, .int p1, .int p2, .int p3, .int p4, .int p5] : List Value).toArray s 0 0 A) (F0 m 318 ls []) := by
                                intro H locs ls hP hD hS hl
                                obtain rfl := Option.some.inj hF
                                exact J202 _ _ _ hP hD hS (lv_sub hl [0, 1, 2, 3, 4, 5, 6, 7, 8, 9, 10, 11, 12, 13, 14, 15] rfl)
                              clear hF
                              have hF := hy212
                              clear hy212
                              refine lv_if_ge (tgt := 271) hx hb dX9_guess_253 (by decide) (fun c213 => ?_) (fun c213 => ?_)
                              · rw [if_pos c213] at hF
                                refine lv_iload hx hb dX9_guess_271 (lv_at hl 0 rfl) ?_
                                refine lv_iconst (v := (1 : Int32)) hx hb dX9_guess_273 (by decide) ?_
                                obtain ⟨y214, hy214, hF⟩ := bnd_some hF
                                have J214 : ∀ (H : Heap) (locs : List Loc) (ls : Array Slot), va_P D classes (wld ct ad G y214) H → va_D A (wld ct ad G y214) → va_S A s.heap H locs → lv_has ls 16 [(15, .int x21), (14, .int y16), (13, .int y14), (12, .int y12), (11, .int y10.1), (10, .int y6.2), (9, .int y4.2), (8, .int y2.2), (7, .int y1.2), (0, .ref (ad a)), (1, .int p0), (2, .int p1), (3, .int p2), (4, .int p3), (5, .int p4), (6, .int p5)] → W p l e (headSpec wuX9_guess ({ frames := 1, cells := 0, slots := 0, locals := 34 })).room s m ([.ref (ad a), .int p0, .int p1, .int p2, .int p3, .int p4, .int p5] : List Value).toArray below meth c H locs 0 0 (MQ below (va_Qv (fun (_ : Unit) => True) (fun _ t => kE D ct ad G A y t) A) ([.ref (ad a), .int p0, .int p1, .int p2, .int p3, .int p4, .int p5] : List Value).toArray s 0 0 A) (F0 m 318 ls []) := by
                                  intro H locs ls hP hD hS hl
                                  obtain rfl := Option.some.inj hF
                                  exact J212 _ _ _ hP hD hS (lv_sub hl [0, 1, 2, 3, 4, 5, 6, 7, 8, 9, 10, 11, 12, 13, 14, 15] rfl)
                                clear hF
                                have hF := hy214
                                clear hy214
                                refine lv_icmp_ne (tgt := 307) hx hb dX9_guess_274 (by decide) (fun c215 => ?_) (fun c215 => ?_)
                                · rw [if_neg c215] at hF
                                  refine lv_aload_n hx hb dX9_guess_307 rfl (lv_at hl 9 rfl) ?_
                                  refine lv_iload_n hx hb dX9_guess_308 rfl (lv_at hl 11 rfl) ?_
                                  refine lv_iload hx hb dX9_guess_309 (lv_at hl 6 rfl) ?_
                                  refine lv_iload hx hb dX9_guess_311 (lv_at hl 5 rfl) ?_
                                  refine lv_iload hx hb dX9_guess_313 (lv_at hl 4 rfl) ?_
                                  obtain ⟨y216, hy216, hF⟩ := bnd_some hF
                                  have hf9 := wA_in hD hA9 hS
                                  refine va_callv (va_runV (As := [.int p1, .int y4.2, .int y6.2, .int y10.1]) (rest := []) ⟨hx, hb, hml, hown, hts⟩ (kX9_adoptMedian l D ct ad Z G y15.1 H.size a p1 y4.2 y6.2 y10.1 y216 hc hk hy216) (cwV 4 hts gX9_guess_X9_adoptMedian rfl rfl rfl (by decide +kernel) ⟨Nat.le_of_ble_eq_true rfl, Nat.le_of_ble_eq_true rfl⟩) ⟨fun a U g mk q => by obtain ⟨q0, q1, qP, qK, qD, qZ, qN⟩ := q; exact ⟨q0, q1, qP, va_K.moved (u := U) (U := U.calling g mk a) (Vm.Alike.refl U.vm) qK, qD, sF.moved (u := U) (U := U.calling g mk a) (Vm.Alike.refl U.vm) qZ, nF.same rfl qN⟩, va_recv hK hP (ci := 9) (q0 := a) rfl (wld_o ct ad G y15.1 hc hk (by decide)), fun U hU hW => ⟨rfl, by rw [hU], by rw [hU]; exact hP, va_K.moved hW.alike hK, hD.weaken (fun _ _ _ _ => trivial), by rw [hU]; exact ((hZ.kept hS.2.1).narrow hf9).moved hW.alike, hN.warm hW⟩⟩ rfl rfl hl.1 rfl (lv_room (Nat.le_of_ble_eq_true rfl)) dX9_guess_315 ⟨(Nat.zero_le _), (Nat.zero_le _)⟩) hS (fun q _ h => hf9 q h) hf9 (fun u t H locs ht hvm hw hB hz1 hk1 hS => ?_)
                                  obtain ⟨hP, hK9, hD9⟩ := hB
                                  rw [ht] at hP
                                  have hD := hD9.weaken (fun _ q _ h => hf9 q.1 h)
                                  obtain rfl := Option.some.inj hF
                                  exact J214 _ _ _ hP hD hS (lv_sub hl [0, 1, 2, 3, 4, 5, 6, 7, 8, 9, 10, 11, 12, 13, 14, 15] rfl)
                                · rw [if_pos c215] at hF
                                  refine lv_aload_n hx hb dX9_guess_277 rfl (lv_at hl 9 rfl) ?_
                                  refine lv_iload_n hx hb dX9_guess_278 rfl (lv_at hl 11 rfl) ?_
                                  refine lv_iload hx hb dX9_guess_279 (lv_at hl 3 rfl) ?_
                                  obtain ⟨y217, hy217, hF⟩ := bnd_some hF
                                  have J217 : ∀ (H : Heap) (locs : List Loc) (ls : Array Slot), va_P D classes (wld ct ad G y15.1) H → va_D A (wld ct ad G y15.1) → va_S A s.heap H locs → lv_has ls 16 [(15, .int x21), (14, .int y16), (13, .int y14), (12, .int y12), (11, .int y10.1), (10, .int y6.2), (9, .int y4.2), (8, .int y2.2), (7, .int y1.2), (0, .ref (ad a)), (1, .int p0), (2, .int p1), (3, .int p2), (4, .int p3), (5, .int p4), (6, .int p5)] → W p l e (headSpec wuX9_guess ({ frames := 1, cells := 0, slots := 0, locals := 34 })).room s m ([.ref (ad a), .int p0, .int p1, .int p2, .int p3, .int p4, .int p5] : List Value).toArray below meth c H locs 0 0 (MQ below (va_Qv (fun (_ : Unit) => True) (fun _ t => kE D ct ad G A y t) A) ([.ref (ad a), .int p0, .int p1, .int p2, .int p3, .int p4, .int p5] : List Value).toArray s 0 0 A) (F0 m 301 ls [.int y217, .int p1, .ref (ad a)]) := by
                                    intro H locs ls hP hD hS hl
                                    obtain ⟨y218, hy218, hF⟩ := bnd_some hF
                                    have hf9 := wA_in hD hA9 hS
                                    refine va_callv (va_runV (As := [.int p1, .int y217]) (rest := []) ⟨hx, hb, hml, hown, hts⟩ (kX9_adopt l D ct ad Z G y15.1 H.size a p1 y217 y218 hc hk hy218) (cwV 2 hts gX9_guess_X9_adopt rfl rfl rfl (by decide +kernel) ⟨Nat.le_of_ble_eq_true rfl, Nat.le_of_ble_eq_true rfl⟩) ⟨fun a U g mk q => by obtain ⟨q0, q1, qP, qK, qD, qZ, qN⟩ := q; exact ⟨q0, q1, qP, va_K.moved (u := U) (U := U.calling g mk a) (Vm.Alike.refl U.vm) qK, qD, sF.moved (u := U) (U := U.calling g mk a) (Vm.Alike.refl U.vm) qZ, nF.same rfl qN⟩, va_recv hK hP (ci := 9) (q0 := a) rfl (wld_o ct ad G y15.1 hc hk (by decide)), fun U hU hW => ⟨rfl, by rw [hU], by rw [hU]; exact hP, va_K.moved hW.alike hK, hD.weaken (fun _ _ _ _ => trivial), by rw [hU]; exact ((hZ.kept hS.2.1).narrow hf9).moved hW.alike, hN.warm hW⟩⟩ rfl rfl hl.1 rfl (lv_room (Nat.le_of_ble_eq_true rfl)) dX9_guess_301 ⟨(Nat.zero_le _), (Nat.zero_le _)⟩) hS (fun q _ h => hf9 q h) hf9 (fun u t H locs ht hvm hw hB hz1 hk1 hS => ?_)
                                    obtain ⟨hP, hK9, hD9⟩ := hB
                                    rw [ht] at hP
                                    have hD := hD9.weaken (fun _ q _ h => hf9 q.1 h)
                                    refine lv_goto (tgt := 318) hx hb dX9_guess_304 (by decide) ?_
                                    obtain rfl := Option.some.inj hF
                                    exact J214 _ _ _ hP hD hS (lv_sub hl [0, 1, 2, 3, 4, 5, 6, 7, 8, 9, 10, 11, 12, 13, 14, 15] rfl)
                                  clear hF
                                  have hF := hy217
                                  clear hy217
                                  refine lv_if_eq (tgt := 289) hx hb dX9_guess_281 (by decide) (fun c219 => ?_) (fun c219 => ?_)
                                  · rw [if_pos c219] at hF
                                    refine lv_iload hx hb dX9_guess_289 (lv_at hl 2 rfl) ?_
                                    obtain ⟨y220, hy220, hF⟩ := bnd_some hF
                                    have J220 : ∀ (H : Heap) (locs : List Loc) (ls : Array Slot), va_P D classes (wld ct ad G y15.1) H → va_D A (wld ct ad G y15.1) → va_S A s.heap H locs → lv_has ls 16 [(15, .int x21), (14, .int y16), (13, .int y14), (12, .int y12), (11, .int y10.1), (10, .int y6.2), (9, .int y4.2), (8, .int y2.2), (7, .int y1.2), (0, .ref (ad a)), (1, .int p0), (2, .int p1), (3, .int p2), (4, .int p3), (5, .int p4), (6, .int p5)] → W p l e (headSpec wuX9_guess ({ frames := 1, cells := 0, slots := 0, locals := 34 })).room s m ([.ref (ad a), .int p0, .int p1, .int p2, .int p3, .int p4, .int p5] : List Value).toArray below meth c H locs 0 0 (MQ below (va_Qv (fun (_ : Unit) => True) (fun _ t => kE D ct ad G A y t) A) ([.ref (ad a), .int p0, .int p1, .int p2, .int p3, .int p4, .int p5] : List Value).toArray s 0 0 A) (F0 m 301 ls [.int y220, .int p1, .ref (ad a)]) := by
                                      intro H locs ls hP hD hS hl
                                      obtain rfl := Option.some.inj hF
                                      exact J217 _ _ _ hP hD hS (lv_sub hl [0, 1, 2, 3, 4, 5, 6, 7, 8, 9, 10, 11, 12, 13, 14, 15] rfl)
                                    clear hF
                                    have hF := hy220
                                    clear hy220
                                    refine lv_if_eq (tgt := 299) hx hb dX9_guess_291 (by decide) (fun c221 => ?_) (fun c221 => ?_)
                                    · rw [if_pos c221] at hF
                                      refine lv_iload hx hb dX9_guess_299 (lv_at hl 4 rfl) ?_
                                      obtain rfl := Option.some.inj hF
                                      exact J220 _ _ _ hP hD hS (lv_sub hl [0, 1, 2, 3, 4, 5, 6, 7, 8, 9, 10, 11, 12, 13, 14, 15] rfl)
                                    · rw [if_neg c221] at hF
                                      refine lv_iload hx hb dX9_guess_294 (lv_at hl 5 rfl) ?_
                                      refine lv_goto (tgt := 301) hx hb dX9_guess_296 (by decide) ?_
                                      obtain rfl := Option.some.inj hF
                                      exact J220 _ _ _ hP hD hS (lv_sub hl [0, 1, 2, 3, 4, 5, 6, 7, 8, 9, 10, 11, 12, 13, 14, 15] rfl)
                                  · rw [if_neg c219] at hF
                                    refine lv_iload hx hb dX9_guess_284 (lv_at hl 6 rfl) ?_
                                    refine lv_goto (tgt := 301) hx hb dX9_guess_286 (by decide) ?_
                                    obtain rfl := Option.some.inj hF
                                    exact J217 _ _ _ hP hD hS (lv_sub hl [0, 1, 2, 3, 4, 5, 6, 7, 8, 9, 10, 11, 12, 13, 14, 15] rfl)
                              · rw [if_neg c213] at hF
                                refine lv_iload hx hb dX9_guess_256 (lv_at hl 6 rfl) ?_
                                obtain ⟨y222, hy222, hF⟩ := bnd_some hF
                                have J222 : ∀ (H : Heap) (locs : List Loc) (ls : Array Slot), va_P D classes (wld ct ad G y222) H → va_D A (wld ct ad G y222) → va_S A s.heap H locs → lv_has ls 16 [(15, .int x21), (14, .int y16), (13, .int y14), (12, .int y12), (11, .int y10.1), (10, .int y6.2), (9, .int y4.2), (8, .int y2.2), (7, .int y1.2), (0, .ref (ad a)), (1, .int p0), (2, .int p1), (3, .int p2), (4, .int p3), (5, .int p4), (6, .int p5)] → W p l e (headSpec wuX9_guess ({ frames := 1, cells := 0, slots := 0, locals := 34 })).room s m ([.ref (ad a), .int p0, .int p1, .int p2, .int p3, .int p4, .int p5] : List Value).toArray below meth c H locs 0 0 (MQ below (va_Qv (fun (_ : Unit) => True) (fun _ t => kE D ct ad G A y t) A) ([.ref (ad a), .int p0, .int p1, .int p2, .int p3, .int p4, .int p5] : List Value).toArray s 0 0 A) (F0 m 318 ls []) := by
                                  intro H locs ls hP hD hS hl
                                  obtain rfl := Option.some.inj hF
                                  exact J212 _ _ _ hP hD hS (lv_sub hl [0, 1, 2, 3, 4, 5, 6, 7, 8, 9, 10, 11, 12, 13, 14, 15] rfl)
                                clear hF
                                have hF := hy222
                                clear hy222
                                refine lv_if_lt (tgt := 271) hx hb dX9_guess_258 (by decide) (fun c223 => ?_) (fun c223 => ?_)
                                · rw [if_pos c223] at hF
                                  refine lv_iload hx hb dX9_guess_271 (lv_at hl 0 rfl) ?_
                                  refine lv_iconst (v := (1 : Int32)) hx hb dX9_guess_273 (by decide) ?_
                                  obtain ⟨y224, hy224, hF⟩ := bnd_some hF
                                  have J224 : ∀ (H : Heap) (locs : List Loc) (ls : Array Slot), va_P D classes (wld ct ad G y224) H → va_D A (wld ct ad G y224) → va_S A s.heap H locs → lv_has ls 16 [(15, .int x21), (14, .int y16), (13, .int y14), (12, .int y12), (11, .int y10.1), (10, .int y6.2), (9, .int y4.2), (8, .int y2.2), (7, .int y1.2), (0, .ref (ad a)), (1, .int p0), (2, .int p1), (3, .int p2), (4, .int p3), (5, .int p4), (6, .int p5)] → W p l e (headSpec wuX9_guess ({ frames := 1, cells := 0, slots := 0, locals := 34 })).room s m ([.ref (ad a), .int p0, .int p1, .int p2, .int p3, .int p4, .int p5] : List Value).toArray below meth c H locs 0 0 (MQ below (va_Qv (fun (_ : Unit) => True) (fun _ t => kE D ct ad G A y t) A) ([.ref (ad a), .int p0, .int p1, .int p2, .int p3, .int p4, .int p5] : List Value).toArray s 0 0 A) (F0 m 318 ls []) := by
                                    intro H locs ls hP hD hS hl
                                    obtain rfl := Option.some.inj hF
                                    exact J222 _ _ _ hP hD hS (lv_sub hl [0, 1, 2, 3, 4, 5, 6, 7, 8, 9, 10, 11, 12, 13, 14, 15] rfl)
                                  clear hF
                                  have hF := hy224
                                  clear hy224
                                  refine lv_icmp_ne (tgt := 307) hx hb dX9_guess_274 (by decide) (fun c225 => ?_) (fun c225 => ?_)
                                  · rw [if_neg c225] at hF
                                    refine lv_aload_n hx hb dX9_guess_307 rfl (lv_at hl 9 rfl) ?_
                                    refine lv_iload_n hx hb dX9_guess_308 rfl (lv_at hl 11 rfl) ?_
                                    refine lv_iload hx hb dX9_guess_309 (lv_at hl 6 rfl) ?_
                                    refine lv_iload hx hb dX9_guess_311 (lv_at hl 5 rfl) ?_
                                    refine lv_iload hx hb dX9_guess_313 (lv_at hl 4 rfl) ?_
                                    obtain ⟨y226, hy226, hF⟩ := bnd_some hF
                                    have hf9 := wA_in hD hA9 hS
                                    refine va_callv (va_runV (As := [.int p1, .int y4.2, .int y6.2, .int y10.1]) (rest := []) ⟨hx, hb, hml, hown, hts⟩ (kX9_adoptMedian l D ct ad Z G y15.1 H.size a p1 y4.2 y6.2 y10.1 y226 hc hk hy226) (cwV 4 hts gX9_guess_X9_adoptMedian rfl rfl rfl (by decide +kernel) ⟨Nat.le_of_ble_eq_true rfl, Nat.le_of_ble_eq_true rfl⟩) ⟨fun a U g mk q => by obtain ⟨q0, q1, qP, qK, qD, qZ, qN⟩ := q; exact ⟨q0, q1, qP, va_K.moved (u := U) (U := U.calling g mk a) (Vm.Alike.refl U.vm) qK, qD, sF.moved (u := U) (U := U.calling g mk a) (Vm.Alike.refl U.vm) qZ, nF.same rfl qN⟩, va_recv hK hP (ci := 9) (q0 := a) rfl (wld_o ct ad G y15.1 hc hk (by decide)), fun U hU hW => ⟨rfl, by rw [hU], by rw [hU]; exact hP, va_K.moved hW.alike hK, hD.weaken (fun _ _ _ _ => trivial), by rw [hU]; exact ((hZ.kept hS.2.1).narrow hf9).moved hW.alike, hN.warm hW⟩⟩ rfl rfl hl.1 rfl (lv_room (Nat.le_of_ble_eq_true rfl)) dX9_guess_315 ⟨(Nat.zero_le _), (Nat.zero_le _)⟩) hS (fun q _ h => hf9 q h) hf9 (fun u t H locs ht hvm hw hB hz1 hk1 hS => ?_)
                                    obtain ⟨hP, hK9, hD9⟩ := hB
                                    rw [ht] at hP
                                    have hD := hD9.weaken (fun _ q _ h => hf9 q.1 h)
                                    obtain rfl := Option.some.inj hF
                                    exact J224 _ _ _ hP hD hS (lv_sub hl [0, 1, 2, 3, 4, 5, 6, 7, 8, 9, 10, 11, 12, 13, 14, 15] rfl)
                                  · rw [if_pos c225] at hF
                                    refine lv_aload_n hx hb dX9_guess_277 rfl (lv_at hl 9 rfl) ?_
                                    refine lv_iload_n hx hb dX9_guess_278 rfl (lv_at hl 11 rfl) ?_
                                    refine lv_iload hx hb dX9_guess_279 (lv_at hl 3 rfl) ?_
                                    obtain ⟨y227, hy227, hF⟩ := bnd_some hF
                                    have J227 : ∀ (H : Heap) (locs : List Loc) (ls : Array Slot), va_P D classes (wld ct ad G y15.1) H → va_D A (wld ct ad G y15.1) → va_S A s.heap H locs → lv_has ls 16 [(15, .int x21), (14, .int y16), (13, .int y14), (12, .int y12), (11, .int y10.1), (10, .int y6.2), (9, .int y4.2), (8, .int y2.2), (7, .int y1.2), (0, .ref (ad a)), (1, .int p0), (2, .int p1), (3, .int p2), (4, .int p3), (5, .int p4), (6, .int p5)] → W p l e (headSpec wuX9_guess ({ frames := 1, cells := 0, slots := 0, locals := 34 })).room s m ([.ref (ad a), .int p0, .int p1, .int p2, .int p3, .int p4, .int p5] : List Value).toArray below meth c H locs 0 0 (MQ below (va_Qv (fun (_ : Unit) => True) (fun _ t => kE D ct ad G A y t) A) ([.ref (ad a), .int p0, .int p1, .int p2, .int p3, .int p4, .int p5] : List Value).toArray s 0 0 A) (F0 m 301 ls [.int y227, .int p1, .ref (ad a)]) := by
                                      intro H locs ls hP hD hS hl
                                      obtain ⟨y228, hy228, hF⟩ := bnd_some hF
                                      have hf9 := wA_in hD hA9 hS
                                      refine va_callv (va_runV (As := [.int p1, .int y227]) (rest := []) ⟨hx, hb, hml, hown, hts⟩ (kX9_adopt l D ct ad Z G y15.1 H.size a p1 y227 y228 hc hk hy228) (cwV 2 hts gX9_guess_X9_adopt rfl rfl rfl (by decide +kernel) ⟨Nat.le_of_ble_eq_true rfl, Nat.le_of_ble_eq_true rfl⟩) ⟨fun a U g mk q => by obtain ⟨q0, q1, qP, qK, qD, qZ, qN⟩ := q; exact ⟨q0, q1, qP, va_K.moved (u := U) (U := U.calling g mk a) (Vm.Alike.refl U.vm) qK, qD, sF.moved (u := U) (U := U.calling g mk a) (Vm.Alike.refl U.vm) qZ, nF.same rfl qN⟩, va_recv hK hP (ci := 9) (q0 := a) rfl (wld_o ct ad G y15.1 hc hk (by decide)), fun U hU hW => ⟨rfl, by rw [hU], by rw [hU]; exact hP, va_K.moved hW.alike hK, hD.weaken (fun _ _ _ _ => trivial), by rw [hU]; exact ((hZ.kept hS.2.1).narrow hf9).moved hW.alike, hN.warm hW⟩⟩ rfl rfl hl.1 rfl (lv_room (Nat.le_of_ble_eq_true rfl)) dX9_guess_301 ⟨(Nat.zero_le _), (Nat.zero_le _)⟩) hS (fun q _ h => hf9 q h) hf9 (fun u t H locs ht hvm hw hB hz1 hk1 hS => ?_)
                                      obtain ⟨hP, hK9, hD9⟩ := hB
                                      rw [ht] at hP
                                      have hD := hD9.weaken (fun _ q _ h => hf9 q.1 h)
                                      refine lv_goto (tgt := 318) hx hb dX9_guess_304 (by decide) ?_
                                      obtain rfl := Option.some.inj hF
                                      exact J224 _ _ _ hP hD hS (lv_sub hl [0, 1, 2, 3, 4, 5, 6, 7, 8, 9, 10, 11, 12, 13, 14, 15] rfl)
                                    clear hF
                                    have hF := hy227
                                    clear hy227
                                    refine lv_if_eq (tgt := 289) hx hb dX9_guess_281 (by decide) (fun c229 => ?_) (fun c229 => ?_)
                                    · rw [if_pos c229] at hF
                                      refine lv_iload hx hb dX9_guess_289 (lv_at hl 2 rfl) ?_
                                      obtain ⟨y230, hy230, hF⟩ := bnd_some hF
                                      have J230 : ∀ (H : Heap) (locs : List Loc) (ls : Array Slot), va_P D classes (wld ct ad G y15.1) H → va_D A (wld ct ad G y15.1) → va_S A s.heap H locs → lv_has ls 16 [(15, .int x21), (14, .int y16), (13, .int y14), (12, .int y12), (11, .int y10.1), (10, .int y6.2), (9, .int y4.2), (8, .int y2.2), (7, .int y1.2), (0, .ref (ad a)), (1, .int p0), (2, .int p1), (3, .int p2), (4, .int p3), (5, .int p4), (6, .int p5)] → W p l e (headSpec wuX9_guess ({ frames := 1, cells := 0, slots := 0, locals := 34 })).room s m ([.ref (ad a), .int p0, .int p1, .int p2, .int p3, .int p4, .int p5] : List Value).toArray below meth c H locs 0 0 (MQ below (va_Qv (fun (_ : Unit) => True) (fun _ t => kE D ct ad G A y t) A) ([.ref (ad a), .int p0, .int p1, .int p2, .int p3, .int p4, .int p5] : List Value).toArray s 0 0 A) (F0 m 301 ls [.int y230, .int p1, .ref (ad a)]) := by
                                        intro H locs ls hP hD hS hl
                                        obtain rfl := Option.some.inj hF
                                        exact J227 _ _ _ hP hD hS (lv_sub hl [0, 1, 2, 3, 4, 5, 6, 7, 8, 9, 10, 11, 12, 13, 14, 15] rfl)
                                      clear hF
                                      have hF := hy230
                                      clear hy230
                                      refine lv_if_eq (tgt := 299) hx hb dX9_guess_291 (by decide) (fun c231 => ?_) (fun c231 => ?_)
                                      · rw [if_pos c231] at hF
                                        refine lv_iload hx hb dX9_guess_299 (lv_at hl 4 rfl) ?_
                                        obtain rfl := Option.some.inj hF
                                        exact J230 _ _ _ hP hD hS (lv_sub hl [0, 1, 2, 3, 4, 5, 6, 7, 8, 9, 10, 11, 12, 13, 14, 15] rfl)
                                      · rw [if_neg c231] at hF
                                        refine lv_iload hx hb dX9_guess_294 (lv_at hl 5 rfl) ?_
                                        refine lv_goto (tgt := 301) hx hb dX9_guess_296 (by decide) ?_
                                        obtain rfl := Option.some.inj hF
                                        exact J230 _ _ _ hP hD hS (lv_sub hl [0, 1, 2, 3, 4, 5, 6, 7, 8, 9, 10, 11, 12, 13, 14, 15] rfl)
                                    · rw [if_neg c229] at hF
                                      refine lv_iload hx hb dX9_guess_284 (lv_at hl 6 rfl) ?_
                                      refine lv_goto (tgt := 301) hx hb dX9_guess_286 (by decide) ?_
                                      obtain rfl := Option.some.inj hF
                                      exact J227 _ _ _ hP hD hS (lv_sub hl [0, 1, 2, 3, 4, 5, 6, 7, 8, 9, 10, 11, 12, 13, 14, 15] rfl)
                                · rw [if_neg c223] at hF
                                  refine lv_aload_n hx hb dX9_guess_261 rfl (lv_at hl 9 rfl) ?_
                                  refine lv_iload_n hx hb dX9_guess_262 rfl (lv_at hl 11 rfl) ?_
                                  refine lv_iload hx hb dX9_guess_263 (lv_at hl 6 rfl) ?_
                                  obtain ⟨y232, hy232, hF⟩ := bnd_some hF
                                  have hf9 := wA_in hD hA9 hS
                                  refine va_callv (va_runV (As := [.int p1, .int y4.2]) (rest := []) ⟨hx, hb, hml, hown, hts⟩ (kX9_adopt l D ct ad Z G y15.1 H.size a p1 y4.2 y232 hc hk hy232) (cwV 2 hts gX9_guess_X9_adopt rfl rfl rfl (by decide +kernel) ⟨Nat.le_of_ble_eq_true rfl, Nat.le_of_ble_eq_true rfl⟩) ⟨fun a U g mk q => by obtain ⟨q0, q1, qP, qK, qD, qZ, qN⟩ := q; exact ⟨q0, q1, qP, va_K.moved (u := U) (U := U.calling g mk a) (Vm.Alike.refl U.vm) qK, qD, sF.moved (u := U) (U := U.calling g mk a) (Vm.Alike.refl U.vm) qZ, nF.same rfl qN⟩, va_recv hK hP (ci := 9) (q0 := a) rfl (wld_o ct ad G y15.1 hc hk (by decide)), fun U hU hW => ⟨rfl, by rw [hU], by rw [hU]; exact hP, va_K.moved hW.alike hK, hD.weaken (fun _ _ _ _ => trivial), by rw [hU]; exact ((hZ.kept hS.2.1).narrow hf9).moved hW.alike, hN.warm hW⟩⟩ rfl rfl hl.1 rfl (lv_room (Nat.le_of_ble_eq_true rfl)) dX9_guess_265 ⟨(Nat.zero_le _), (Nat.zero_le _)⟩) hS (fun q _ h => hf9 q h) hf9 (fun u t H locs ht hvm hw hB hz1 hk1 hS => ?_)
                                  obtain ⟨hP, hK9, hD9⟩ := hB
                                  rw [ht] at hP
                                  have hD := hD9.weaken (fun _ q _ h => hf9 q.1 h)
                                  refine lv_goto (tgt := 318) hx hb dX9_guess_268 (by decide) ?_
                                  obtain rfl := Option.some.inj hF
                                  exact J222 _ _ _ hP hD hS (lv_sub hl [0, 1, 2, 3, 4, 5, 6, 7, 8, 9, 10, 11, 12, 13, 14, 15] rfl)
                          · rw [if_neg c201] at hF
                            refine lv_aload_n hx hb dX9_guess_236 rfl (lv_at hl 9 rfl) ?_
                            refine lv_iload_n hx hb dX9_guess_237 rfl (lv_at hl 11 rfl) ?_
                            refine lv_iload hx hb dX9_guess_238 (lv_at hl 4 rfl) ?_
                            obtain ⟨y233, hy233, hF⟩ := bnd_some hF
                            have hf9 := wA_in hD hA9 hS
                            refine va_callv (va_runV (As := [.int p1, .int y10.1]) (rest := []) ⟨hx, hb, hml, hown, hts⟩ (kX9_adopt l D ct ad Z G y15.1 H.size a p1 y10.1 y233 hc hk hy233) (cwV 2 hts gX9_guess_X9_adopt rfl rfl rfl (by decide +kernel) ⟨Nat.le_of_ble_eq_true rfl, Nat.le_of_ble_eq_true rfl⟩) ⟨fun a U g mk q => by obtain ⟨q0, q1, qP, qK, qD, qZ, qN⟩ := q; exact ⟨q0, q1, qP, va_K.moved (u := U) (U := U.calling g mk a) (Vm.Alike.refl U.vm) qK, qD, sF.moved (u := U) (U := U.calling g mk a) (Vm.Alike.refl U.vm) qZ, nF.same rfl qN⟩, va_recv hK hP (ci := 9) (q0 := a) rfl (wld_o ct ad G y15.1 hc hk (by decide)), fun U hU hW => ⟨rfl, by rw [hU], by rw [hU]; exact hP, va_K.moved hW.alike hK, hD.weaken (fun _ _ _ _ => trivial), by rw [hU]; exact ((hZ.kept hS.2.1).narrow hf9).moved hW.alike, hN.warm hW⟩⟩ rfl rfl hl.1 rfl (lv_room (Nat.le_of_ble_eq_true rfl)) dX9_guess_240 ⟨(Nat.zero_le _), (Nat.zero_le _)⟩) hS (fun q _ h => hf9 q h) hf9 (fun u t H locs ht hvm hw hB hz1 hk1 hS => ?_)
                            obtain ⟨hP, hK9, hD9⟩ := hB
                            rw [ht] at hP
                            have hD := hD9.weaken (fun _ q _ h => hf9 q.1 h)
                            refine lv_goto (tgt := 318) hx hb dX9_guess_243 (by decide) ?_
                            obtain rfl := Option.some.inj hF
                            exact J200 _ _ _ hP hD hS (lv_sub hl [0, 1, 2, 3, 4, 5, 6, 7, 8, 9, 10, 11, 12, 13, 14, 15] rfl)
                      · rw [if_neg c166] at hF
                        refine lv_aload_n hx hb dX9_guess_215 rfl (lv_at hl 9 rfl) ?_
                        refine lv_iload_n hx hb dX9_guess_216 rfl (lv_at hl 11 rfl) ?_
                        refine lv_iload hx hb dX9_guess_217 (lv_at hl 6 rfl) ?_
                        obtain ⟨y234, hy234, hF⟩ := bnd_some hF
                        have hf9 := wA_in hD hA9 hS
                        refine va_callv (va_runV (As := [.int p1, .int y4.2]) (rest := []) ⟨hx, hb, hml, hown, hts⟩ (kX9_adopt l D ct ad Z G y15.1 H.size a p1 y4.2 y234 hc hk hy234) (cwV 2 hts gX9_guess_X9_adopt rfl rfl rfl (by decide +kernel) ⟨Nat.le_of_ble_eq_true rfl, Nat.le_of_ble_eq_true rfl⟩) ⟨fun a U g mk q => by obtain ⟨q0, q1, qP, qK, qD, qZ, qN⟩ := q; exact ⟨q0, q1, qP, va_K.moved (u := U) (U := U.calling g mk a) (Vm.Alike.refl U.vm) qK, qD, sF.moved (u := U) (U := U.calling g mk a) (Vm.Alike.refl U.vm) qZ, nF.same rfl qN⟩, va_recv hK hP (ci := 9) (q0 := a) rfl (wld_o ct ad G y15.1 hc hk (by decide)), fun U hU hW => ⟨rfl, by rw [hU], by rw [hU]; exact hP, va_K.moved hW.alike hK, hD.weaken (fun _ _ _ _ => trivial), by rw [hU]; exact ((hZ.kept hS.2.1).narrow hf9).moved hW.alike, hN.warm hW⟩⟩ rfl rfl hl.1 rfl (lv_room (Nat.le_of_ble_eq_true rfl)) dX9_guess_219 ⟨(Nat.zero_le _), (Nat.zero_le _)⟩) hS (fun q _ h => hf9 q h) hf9 (fun u t H locs ht hvm hw hB hz1 hk1 hS => ?_)
                        obtain ⟨hP, hK9, hD9⟩ := hB
                        rw [ht] at hP
                        have hD := hD9.weaken (fun _ q _ h => hf9 q.1 h)
                        refine lv_goto (tgt := 318) hx hb dX9_guess_222 (by decide) ?_
                        obtain rfl := Option.some.inj hF
                        exact J165 _ _ _ hP hD hS (lv_sub hl [0, 1, 2, 3, 4, 5, 6, 7, 8, 9, 10, 11, 12, 13, 14, 15] rfl)
                · rw [if_pos c23] at hF
                  refine lv_iload hx hb dX9_guess_183 (lv_at hl 2 rfl) ?_
                  obtain ⟨y235, hy235, hF⟩ := bnd_some hF
                  have J235 : ∀ (H : Heap) (locs : List Loc) (ls : Array Slot), va_P D classes (wld ct ad G y235) H → va_D A (wld ct ad G y235) → va_S A s.heap H locs → lv_has ls 16 [(15, .int x21), (14, .int y16), (13, .int y14), (12, .int y12), (11, .int y10.1), (10, .int y6.2), (9, .int y4.2), (8, .int y2.2), (7, .int y1.2), (0, .ref (ad a)), (1, .int p0), (2, .int p1), (3, .int p2), (4, .int p3), (5, .int p4), (6, .int p5)] → W p l e (headSpec wuX9_guess ({ frames := 1, cells := 0, slots := 0, locals := 34 })).room s m ([.ref (ad a), .int p0, .int p1, .int p2, .int p3, .int p4, .int p5] : List Value).toArray below meth c H locs 0 0 (MQ below (va_Qv (fun (_ : Unit) => True) (fun _ t => kE D ct ad G A y t) A) ([.ref (ad a), .int p0, .int p1, .int p2, .int p3, .int p4, .int p5] : List Value).toArray s 0 0 A) (F0 m 318 ls []) := by
                    intro H locs ls hP hD hS hl
                    obtain rfl := Option.some.inj hF
                    exact J22 _ _ _ hP hD hS (lv_sub hl [0, 1, 2, 3, 4, 5, 6, 7, 8, 9, 10, 11, 12, 13, 14, 15] rfl)
                  clear hF
                  have hF := hy235
                  clear hy235
                  refine lv_if_eq (tgt := 198) hx hb dX9_guess_185 (by decide) (fun c236 => ?_) (fun c236 => ?_)
                  · rw [if_pos c236] at hF
                    refine lv_iload hx hb dX9_guess_198 (lv_at hl 15 rfl) ?_
                    refine lv_iconst (v := (2 : Int32)) hx hb dX9_guess_200 (by decide) ?_
                    obtain ⟨y237, hy237, hF⟩ := bnd_some hF
                    have J237 : ∀ (H : Heap) (locs : List Loc) (ls : Array Slot), va_P D classes (wld ct ad G y237) H → va_D A (wld ct ad G y237) → va_S A s.heap H locs → lv_has ls 16 [(15, .int x21), (14, .int y16), (13, .int y14), (12, .int y12), (11, .int y10.1), (10, .int y6.2), (9, .int y4.2), (8, .int y2.2), (7, .int y1.2), (0, .ref (ad a)), (1, .int p0), (2, .int p1), (3, .int p2), (4, .int p3), (5, .int p4), (6, .int p5)] → W p l e (headSpec wuX9_guess ({ frames := 1, cells := 0, slots := 0, locals := 34 })).room s m ([.ref (ad a), .int p0, .int p1, .int p2, .int p3, .int p4, .int p5] : List Value).toArray below meth c H locs 0 0 (MQ below (va_Qv (fun (_ : Unit) => True) (fun _ t => kE D ct ad G A y t) A) ([.ref (ad a), .int p0, .int p1, .int p2, .int p3, .int p4, .int p5] : List Value).toArray s 0 0 A) (F0 m 318 ls []) := by
                      intro H locs ls hP hD hS hl
                      obtain rfl := Option.some.inj hF
                      exact J235 _ _ _ hP hD hS (lv_sub hl [0, 1, 2, 3, 4, 5, 6, 7, 8, 9, 10, 11, 12, 13, 14, 15] rfl)
                    clear hF
                    have hF := hy237
                    clear hy237
                    refine lv_icmp_eq (tgt := 210) hx hb dX9_guess_201 (by decide) (fun c238 => ?_) (fun c238 => ?_)
                    · rw [if_pos c238] at hF
                      refine lv_iload hx hb dX9_guess_210 (lv_at hl 3 rfl) ?_
                      obtain ⟨y239, hy239, hF⟩ := bnd_some hF
                      have J239 : ∀ (H : Heap) (locs : List Loc) (ls : Array Slot), va_P D classes (wld ct ad G y239) H → va_D A (wld ct ad G y239) → va_S A s.heap H locs → lv_has ls 16 [(15, .int x21), (14, .int y16), (13, .int y14), (12, .int y12), (11, .int y10.1), (10, .int y6.2), (9, .int y4.2), (8, .int y2.2), (7, .int y1.2), (0, .ref (ad a)), (1, .int p0), (2, .int p1), (3, .int p2), (4, .int p3), (5, .int p4), (6, .int p5)] → W p l e (headSpec wuX9_guess ({ frames := 1, cells := 0, slots := 0, locals := 34 })).room s m ([.ref (ad a), .int p0, .int p1, .int p2, .int p3, .int p4, .int p5] : List Value).toArray below meth c H locs 0 0 (MQ below (va_Qv (fun (_ : Unit) => True) (fun _ t => kE D ct ad G A y t) A) ([.ref (ad a), .int p0, .int p1, .int p2, .int p3, .int p4, .int p5] : List Value).toArray s 0 0 A) (F0 m 318 ls []) := by
                        intro H locs ls hP hD hS hl
                        obtain rfl := Option.some.inj hF
                        exact J237 _ _ _ hP hD hS (lv_sub hl [0, 1, 2, 3, 4, 5, 6, 7, 8, 9, 10, 11, 12, 13, 14, 15] rfl)
                      clear hF
                      have hF := hy239
                      clear hy239
                      refine lv_if_eq (tgt := 225) hx hb dX9_guess_212 (by decide) (fun c240 => ?_) (fun c240 => ?_)
                      · rw [if_pos c240] at hF
                        refine lv_iload hx hb dX9_guess_225 (lv_at hl 15 rfl) ?_
                        refine lv_iconst (v := (4 : Int32)) hx hb dX9_guess_227 (by decide) ?_
                        obtain ⟨y241, hy241, hF⟩ := bnd_some hF
                        have J241 : ∀ (H : Heap) (locs : List Loc) (ls : Array Slot), va_P D classes (wld ct ad G y241) H → va_D A (wld ct ad G y241) → va_S A s.heap H locs → lv_has ls 16 [(15, .int x21), (14, .int y16), (13, .int y14), (12, .int y12), (11, .int y10.1), (10, .int y6.2), (9, .int y4.2), (8, .int y2.2), (7, .int y1.2), (0, .ref (ad a)), (1, .int p0), (2, .int p1), (3, .int p2), (4, .int p3), (5, .int p4), (6, .int p5)] → W p l e (headSpec wuX9_guess ({ frames := 1, cells := 0, slots := 0, locals := 34 })).room s m ([.ref (ad a), .int p0, .int p1, .int p2, .int p3, .int p4, .int p5] : List Value).toArray below meth c H locs 0 0 (MQ below (va_Qv (fun (_ : Unit) => True) (fun _ t => kE D ct ad G A y t) A) ([.ref (ad a), .int p0, .int p1, .int p2, .int p3, .int p4, .int p5] : List Value).toArray s 0 0 A) (F0 m 318 ls []) := by
                          intro H locs ls hP hD hS hl
                          obtain rfl := Option.some.inj hF
                          exact J239 _ _ _ hP hD hS (lv_sub hl [0, 1, 2, 3, 4, 5, 6, 7, 8, 9, 10, 11, 12, 13, 14, 15] rfl)
                        clear hF
                        have hF := hy241
                        clear hy241
                        refine lv_icmp_ne (tgt := 246) hx hb dX9_guess_228 (by decide) (fun c242 => ?_) (fun c242 => ?_)
                        · rw [if_neg c242] at hF
                          refine lv_iload hx hb dX9_guess_246 (lv_at hl 5 rfl) ?_
                          obtain ⟨y243, hy243, hF⟩ := bnd_some hF
                          have J243 : ∀ (H : Heap) (locs : List Loc) (ls : Array Slot), va_P D classes (wld ct ad G y243) H → va_D A (wld ct ad G y243) → va_S A s.heap H locs → lv_has ls 16 [(15, .int x21), (14, .int y16), (13, .int y14), (12, .int y12), (11, .int y10.1), (10, .int y6.2), (9, .int y4.2), (8, .int y2.2), (7, .int y1.2), (0, .ref (ad a)), (1, .int p0), (2, .int p1), (3, .int p2), (4, .int p3), (5, .int p4), (6, .int p5)] → W p l e (headSpec wuX9_guess ({ frames := 1, cells := 0, slots := 0, locals := 34 })).room s m ([.ref (ad a), .int p0, .int p1, .int p2, .int p3, .int p4, .int p5] : List Value).toArray below meth c H locs 0 0 (MQ below (va_Qv (fun (_ : Unit) => True) (fun _ t => kE D ct ad G A y t) A) ([.ref (ad a), .int p0, .int p1, .int p2, .int p3, .int p4, .int p5] : List Value).toArray s 0 0 A) (F0 m 318 ls []) := by
                            intro H locs ls hP hD hS hl
                            obtain rfl := Option.some.inj hF
                            exact J241 _ _ _ hP hD hS (lv_sub hl [0, 1, 2, 3, 4, 5, 6, 7, 8, 9, 10, 11, 12, 13, 14, 15] rfl)
                          clear hF
                          have hF := hy243
                          clear hy243
                          refine lv_if_ge (tgt := 271) hx hb dX9_guess_248 (by decide) (fun c244 => ?_) (fun c244 => ?_)
                          · rw [if_pos c244] at hF
                            refine lv_iload hx hb dX9_guess_271 (lv_at hl 0 rfl) ?_
                            refine lv_iconst (v := (1 : Int32)) hx hb dX9_guess_273 (by decide) ?_
                            obtain ⟨y245, hy245, hF⟩ := bnd_some hF
                            have J245 : ∀ (H : Heap) (locs : List Loc) (ls : Array Slot), va_P D classes (wld ct ad G y245) H → va_D A (wld ct ad G y245) → va_S A s.heap H locs → lv_has ls 16 [(15, .int x21), (14, .int y16), (13, .int y14), (12, .int y12), (11, .int y10.1), (10, .int y6.2), (9, .int y4.2), (8, .int y2.2), (7, .int y1.2), (0, .ref (ad a)), (1, .int p0), (2, .int p1), (3, .int p2), (4, .int p3), (5, .int p4), (6, .int p5)] → W p l e (headSpec wuX9_guess ({ frames := 1, cells := 0, slots := 0, locals := 34 })).room s m ([.ref (ad a), .int p0, .int p1, .int p2, .int p3, .int p4, .int p5] : List Value).toArray below meth c H locs 0 0 (MQ below (va_Qv (fun (_ : Unit) => True) (fun _ t => kE D ct ad G A y t) A) ([.ref (ad a), .int p0, .int p1, .int p2, .int p3, .int p4, .int p5] : List Value).toArray s 0 0 A) (F0 m 318 ls []) := by
                              intro H locs ls hP hD hS hl
                              obtain rfl := Option.some.inj hF
                              exact J243 _ _ _ hP hD hS (lv_sub hl [0, 1, 2, 3, 4, 5, 6, 7, 8, 9, 10, 11, 12, 13, 14, 15] rfl)
                            clear hF
                            have hF := hy245
                            clear hy245
                            refine lv_icmp_ne (tgt := 307) hx hb dX9_guess_274 (by decide) (fun c246 => ?_) (fun c246 => ?_)
                            · rw [if_neg c246] at hF
                              refine lv_aload_n hx hb dX9_guess_307 rfl (lv_at hl 9 rfl) ?_
                              refine lv_iload_n hx hb dX9_guess_308 rfl (lv_at hl 11 rfl) ?_
                              refine lv_iload hx hb dX9_guess_309 (lv_at hl 6 rfl) ?_
                              refine lv_iload hx hb dX9_guess_311 (lv_at hl 5 rfl) ?_
                              refine lv_iload hx hb dX9_guess_313 (lv_at hl 4 rfl) ?_
                              obtain ⟨y247, hy247, hF⟩ := bnd_some hF
                              have hf9 := wA_in hD hA9 hS
                              refine va_callv (va_runV (As := [.int p1, .int y4.2, .int y6.2, .int y10.1]) (rest := []) ⟨hx, hb, hml, hown, hts⟩ (kX9_adoptMedian l D ct ad Z G y15.1 H.size a p1 y4.2 y6.2 y10.1 y247 hc hk hy247) (cwV 4 hts gX9_guess_X9_adoptMedian rfl rfl rfl (by decide +kernel) ⟨Nat.le_of_ble_eq_true rfl, Nat.le_of_ble_eq_true rfl⟩) ⟨fun a U g mk q => by obtain ⟨q0, q1, qP, qK, qD, qZ, qN⟩ := q; exact ⟨q0, q1, qP, va_K.moved (u := U) (U := U.calling g mk a) (Vm.Alike.refl U.vm) qK, qD, sF.moved (u := U) (U := U.calling g mk a) (Vm.Alike.refl U.vm) qZ, nF.same rfl qN⟩, va_recv hK hP (ci := 9) (q0 := a) rfl (wld_o ct ad G y15.1 hc hk (by decide)), fun U hU hW => ⟨rfl, by rw [hU], by rw [hU]; exact hP, va_K.moved hW.alike hK, hD.weaken (fun _ _ _ _ => trivial), by rw [hU]; exact ((hZ.kept hS.2.1).narrow hf9).moved hW.alike, hN.warm hW⟩⟩ rfl rfl hl.1 rfl (lv_room (Nat.le_of_ble_eq_true rfl)) dX9_guess_315 ⟨(Nat.zero_le _), (Nat.zero_le _)⟩) hS (fun q _ h => hf9 q h) hf9 (fun u t H locs ht hvm hw hB hz1 hk1 hS => ?_)
                              obtain ⟨hP, hK9, hD9⟩ := hB
                              rw [ht] at hP
                              have hD := hD9.weaken (fun _ q _ h => hf9 q.1 h)
                              obtain rfl := Option.some.inj hF
                              exact J245 _ _ _ hP hD hS (lv_sub hl [0, 1, 2, 3, 4, 5, 6, 7, 8, 9, 10, 11, 12, 13, 14, 15] rfl)
                            · rw [if_pos c246] at hF
                              refine lv_aload_n hx hb dX9_guess_277 rfl (lv_at hl 9 rfl) ?_
                              refine lv_iload_n hx hb dX9_guess_278 rfl (lv_at hl 11 rfl) ?_
                              refine lv_iload hx hb dX9_guess_279 (lv_at hl 3 rfl) ?_
                              obtain ⟨y248, hy248, hF⟩ := bnd_some hF
                              have J248 : ∀ (H : Heap) (locs : List Loc) (ls : Array Slot), va_P D classes (wld ct ad G y15.1) H → va_D A (wld ct ad G y15.1) → va_S A s.heap H locs → lv_has ls 16 [(15, .int x21), (14, .int y16), (13, .int y14), (12, .int y12), (11, .int y10.1), (10, .int y6.2), (9, .int y4.2), (8, .int y2.2), (7, .int y1.2), (0, .ref (ad a)), (1, .int p0), (2, .int p1), (3, .int p2), (4, .int p3), (5, .int p4), (6, .int p5)] → W p l e (headSpec wuX9_guess ({ frames := 1, cells := 0, slots := 0, locals := 34 })).room s m ([.ref (ad a), .int p0, .int p1, .int p2, .int p3, .int p4, .int p5] : List Value).toArray below meth c H locs 0 0 (MQ below (va_Qv (fun (_ : Unit) => True) (fun _ t => kE D ct ad G A y t) A) ([.ref (ad a), .int p0, .int p1, .int p2, .int p3, .int p4, .int p5] : List Value).toArray s 0 0 A) (F0 m 301 ls [.int y248, .int p1, .ref (ad a)]) := by
                                intro H locs ls hP hD hS hl
                                obtain ⟨y249, hy249, hF⟩ := bnd_some hF
                                have hf9 := wA_in hD hA9 hS
                                refine va_callv (va_runV (As := [.int p1, .int y248]) (rest := []) ⟨hx, hb, hml, hown, hts⟩ (kX9_adopt l D ct ad Z G y15.1 H.size a p1 y248 y249 hc hk hy249) (cwV 2 hts gX9_guess_X9_adopt rfl rfl rfl (by decide +kernel) ⟨Nat.le_of_ble_eq_true rfl, Nat.le_of_ble_eq_true rfl⟩) ⟨fun a U g mk q => by obtain ⟨q0, q1, qP, qK, qD, qZ, qN⟩ := q; exact ⟨q0, q1, qP, va_K.moved (u := U) (U := U.calling g mk a) (Vm.Alike.refl U.vm) qK, qD, sF.moved (u := U) (U := U.calling g mk a) (Vm.Alike.refl U.vm) qZ, nF.same rfl qN⟩, va_recv hK hP (ci := 9) (q0 := a) rfl (wld_o ct ad G y15.1 hc hk (by decide)), fun U hU hW => ⟨rfl, by rw [hU], by rw [hU]; exact hP, va_K.moved hW.alike hK, hD.weaken (fun _ _ _ _ => trivial), by rw [hU]; exact ((hZ.kept hS.2.1).narrow hf9).moved hW.alike, hN.warm hW⟩⟩ rfl rfl hl.1 rfl (lv_room (Nat.le_of_ble_eq_true rfl)) dX9_guess_301 ⟨(Nat.zero_le _), (Nat.zero_le _)⟩) hS (fun q _ h => hf9 q h) hf9 (fun u t H locs ht hvm hw hB hz1 hk1 hS => ?_)
                                obtain ⟨hP, hK9, hD9⟩ := hB
                                rw [ht] at hP
                                have hD := hD9.weaken (fun _ q _ h => hf9 q.1 h)
                                refine lv_goto (tgt := 318) hx hb dX9_guess_304 (by decide) ?_
                                obtain rfl := Option.some.inj hF
                                exact J245 _ _ _ hP hD hS (lv_sub hl [0, 1, 2, 3, 4, 5, 6, 7, 8, 9, 10, 11, 12, 13, 14, 15] rfl)
                              clear hF
                              have hF := hy248
                              clear hy248
                              refine lv_if_eq (tgt := 289) hx hb dX9_guess_281 (by decide) (fun c250 => ?_) (fun c250 => ?_)
                              · rw [if_pos c250] at hF
                                refine lv_iload hx hb dX9_guess_289 (lv_at hl 2 rfl) ?_
                                obtain ⟨y251, hy251, hF⟩ := bnd_some hF
                                have J251 : ∀ (H : Heap) (locs : List Loc) (ls : Array Slot), va_P D classes (wld ct ad G y15.1) H → va_D A (wld ct ad G y15.1) → va_S A s.heap H locs → lv_has ls 16 [(15, .int x21), (14, .int y16), (13, .int y14), (12, .int y12), (11, .int y10.1), (10, .int y6.2), (9, .int y4.2), (8, .int y2.2), (7, .int y1.2), (0, .ref (ad a)), (1, .int p0), (2, .int p1), (3, .int p2), (4, .int p3), (5, .int p4), (6, .int p5)] → W p l e (headSpec wuX9_guess ({ frames := 1, cells := 0, slots := 0, locals := 34 })).room s m ([.ref (ad a), .int p0, .int p1, .int p2, .int p3, .int p4, .int p5] : List Value).toArray below meth c H locs 0 0 (MQ below (va_Qv (fun (_ : Unit) => True) (fun _ t => kE D ct ad G A y t) A) ([.ref (ad a), .int p0, .int p1, .int p2, .int p3, .int p4, .int p5] : List Value).toArray s 0 0 A) (F0 m 301 ls [.int y251, .int p1, .ref (ad a)]) := by
                                  intro H locs ls hP hD hS hl
                                  obtain rfl := Option.some.inj hF
                                  exact J248 _ _ _ hP hD hS (lv_sub hl [0, 1, 2, 3, 4, 5, 6, 7, 8, 9, 10, 11, 12, 13, 14, 15] rfl)
                                clear hF
                                have hF := hy251
                                clear hy251
                                refine lv_if_eq (tgt := 299) hx hb dX9_guess_291 (by decide) (fun c252 => ?_) (fun c252 => ?_)
                                · rw [if_pos c252] at hF
                                  refine lv_iload hx hb dX9_guess_299 (lv_at hl 4 rfl) ?_
                                  obtain rfl := Option.some.inj hF
                                  exact J251 _ _ _ hP hD hS (lv_sub hl [0, 1, 2, 3, 4, 5, 6, 7, 8, 9, 10, 11, 12, 13, 14, 15] rfl)
                                · rw [if_neg c252] at hF
                                  refine lv_iload hx hb dX9_guess_294 (lv_at hl 5 rfl) ?_
                                  refine lv_goto (tgt := 301) hx hb dX9_guess_296 (by decide) ?_
                                  obtain rfl := Option.some.inj hF
                                  exact J251 _ _ _ hP hD hS (lv_sub hl [0, 1, 2, 3, 4, 5, 6, 7, 8, 9, 10, 11, 12, 13, 14, 15] rfl)
                              · rw [if_neg c250] at hF
                                refine lv_iload hx hb dX9_guess_284 (lv_at hl 6 rfl) ?_
                                refine lv_goto (tgt := 301) hx hb dX9_guess_286 (by decide) ?_
                                obtain rfl := Option.some.inj hF
                                exact J248 _ _ _ hP hD hS (lv_sub hl [0, 1, 2, 3, 4, 5, 6, 7, 8, 9, 10, 11, 12, 13, 14, 15] rfl)
                          · rw [if_neg c244] at hF
                            refine lv_iload hx hb dX9_guess_251 (lv_at hl 4 rfl) ?_
                            obtain ⟨y253, hy253, hF⟩ := bnd_some hF
                            have J253 : ∀ (H : Heap) (locs : List Loc) (ls : Array Slot), va_P D classes (wld ct ad G y253) H → va_D A (wld ct ad G y253) → va_S A s.heap H locs → lv_has ls 16 [(15, .int x21), (14, .int y16), (13, .int y14), (12, .int y12), (11, .int y10.1), (10, .int y6.2), (9, .int y4.2), (8, .int y2.2), (7, .int y1.2), (0, .ref (ad a)), (1, .int p0), (2, .int p1), (3, .int p2), (4, .int p3), (5, .int p4), (6, .int p5)] → W p l e (headSpec wuX9_guess ({ frames := 1, cells := 0, slots := 0, locals := 34 })).room s m ([.ref (ad a), .int p0, .int p1, .int p2, .int p3, .int p4, .int p5] : List Value).toArray below meth c H locs 0 0 (MQ below (va_Qv (fun (_ : Unit) => True) (fun _ t => kE D ct ad G A y t) A) ([.ref (ad a), .int p0, .int p1, .int p2, .int p3, .int p4, .int p5] : List Value).toArray s 0 0 A) (F0 m 318 ls []) := by
                              intro H locs ls hP hD hS hl
                              obtain rfl := Option.some.inj hF
                              exact J243 _ _ _ hP hD hS (lv_sub hl [0, 1, 2, 3, 4, 5, 6, 7, 8, 9, 10, 11, 12, 13, 14, 15] rfl)
                            clear hF
                            have hF := hy253
                            clear hy253
                            refine lv_if_ge (tgt := 271) hx hb dX9_guess_253 (by decide) (fun c254 => ?_) (fun c254 => ?_)
                            · rw [if_pos c254] at hF
                              refine lv_iload hx hb dX9_guess_271 (lv_at hl 0 rfl) ?_
                              refine lv_iconst (v := (1 : Int32)) hx hb dX9_guess_273 (by decide) ?_
                              obtain ⟨y255, hy255, hF⟩ := bnd_some hF
                              have J255 : ∀ (H : Heap) (locs : List Loc) (ls : Array Slot), va_P D classes (wld ct ad G y255) H → va_D A (wld ct ad G y255) → va_S A s.heap H locs → lv_has ls 16 [(15, .int x21), (14, .int y16), (13, .int y14), (12, .int y12), (11, .int y10.1), (10, .int y6.2), (9, .int y4.2), (8, .int y2.2), (7, .int y1.2), (0, .ref (ad a)), (1, .int p0), (2, .int p1), (3, .int p2), (4, .int p3), (5, .int p4), (6, .int p5)] → W p l e (headSpec wuX9_guess ({ frames := 1, cells := 0, slots := 0, locals := 34 })).room s m ([.ref (ad a), .int p0, .int p1, .int p2, .int p3, .int p4, .int p5] : List Value).toArray below meth c H locs 0 0 (MQ below (va_Qv (fun (_ : Unit) => True) (fun _ t => kE D ct ad G A y t) A) ([.ref (ad a), .int p0, .int p1, .int p2, .int p3, .int p4, .int p5] : List Value).toArray s 0 0 A) (F0 m 318 ls []) := by
                                intro H locs ls hP hD hS hl
                                obtain rfl := Option.some.inj hF
                                exact J253 _ _ _ hP hD hS (lv_sub hl [0, 1, 2, 3, 4, 5, 6, 7, 8, 9, 10, 11, 12, 13, 14, 15] rfl)
                              clear hF
                              have hF := hy255
                              clear hy255
                              refine lv_icmp_ne (tgt := 307) hx hb dX9_guess_274 (by decide) (fun c256 => ?_) (fun c256 => ?_)
                              · rw [if_neg c256] at hF
                                refine lv_aload_n hx hb dX9_guess_307 rfl (lv_at hl 9 rfl) ?_
                                refine lv_iload_n hx hb dX9_guess_308 rfl (lv_at hl 11 rfl) ?_
                                refine lv_iload hx hb dX9_guess_309 (lv_at hl 6 rfl) ?_
                                refine lv_iload hx hb dX9_guess_311 (lv_at hl 5 rfl) ?_
                                refine lv_iload hx hb dX9_guess_313 (lv_at hl 4 rfl) ?_
                                obtain ⟨y257, hy257, hF⟩ := bnd_some hF
                                have hf9 := wA_in hD hA9 hS
                                refine va_callv (va_runV (As := [.int p1, .int y4.2, .int y6.2, .int y10.1]) (rest := []) ⟨hx, hb, hml, hown, hts⟩ (kX9_adoptMedian l D ct ad Z G y15.1 H.size a p1 y4.2 y6.2 y10.1 y257 hc hk hy257) (cwV 4 hts gX9_guess_X9_adoptMedian rfl rfl rfl (by decide +kernel) ⟨Nat.le_of_ble_eq_true rfl, Nat.le_of_ble_eq_true rfl⟩) ⟨fun a U g mk q => by obtain ⟨q0, q1, qP, qK, qD, qZ, qN⟩ := q; exact ⟨q0, q1, qP, va_K.moved (u := U) (U := U.calling g mk a) (Vm.Alike.refl U.vm) qK, qD, sF.moved (u := U) (U := U.calling g mk a) (Vm.Alike.refl U.vm) qZ, nF.same rfl qN⟩, va_recv hK hP (ci := 9) (q0 := a) rfl (wld_o ct ad G y15.1 hc hk (by decide)), fun U hU hW => ⟨rfl, by rw [hU], by rw [hU]; exact hP, va_K.moved hW.alike hK, hD.weaken (fun _ _ _ _ => trivial), by rw [hU]; exact ((hZ.kept hS.2.1).narrow hf9).moved hW.alike, hN.warm hW⟩⟩ rfl rfl hl.1 rfl (lv_room (Nat.le_of_ble_eq_true rfl)) dX9_guess_315 ⟨(Nat.zero_le _), (Nat.zero_le _)⟩) hS (fun q _ h => hf9 q h) hf9 (fun u t H locs ht hvm hw hB hz1 hk1 hS => ?_)
                                obtain ⟨hP, hK9, hD9⟩ := hB
                                rw [ht] at hP
                                have hD := hD9.weaken (fun _ q _ h => hf9 q.1 h)
                                obtain rfl := Option.some.inj hF
                                exact J255 _ _ _ hP hD hS (lv_sub hl [0, 1, 2, 3, 4, 5, 6, 7, 8, 9, 10, 11, 12, 13, 14, 15] rfl)
                              · rw [if_pos c256] at hF
                                refine lv_aload_n hx hb dX9_guess_277 rfl (lv_at hl 9 rfl) ?_
                                refine lv_iload_n hx hb dX9_guess_278 rfl (lv_at hl 11 rfl) ?_
                                refine lv_iload hx hb dX9_guess_279 (lv_at hl 3 rfl) ?_
                                obtain ⟨y258, hy258, hF⟩ := bnd_some hF
                                have J258 : ∀ (H : Heap) (locs : List Loc) (ls : Array Slot), va_P D classes (wld ct ad G y15.1) H → va_D A (wld ct ad G y15.1) → va_S A s.heap H locs → lv_has ls 16 [(15, .int x21), (14, .int y16), (13, .int y14), (12, .int y12), (11, .int y10.1), (10, .int y6.2), (9, .int y4.2), (8, .int y2.2), (7, .int y1.2), (0, .ref (ad a)), (1, .int p0), (2, .int p1), (3, .int p2), (4, .int p3), (5, .int p4), (6, .int p5)] → W p l e (headSpec wuX9_guess ({ frames := 1, cells := 0, slots := 0, locals := 34 })).room s m ([.ref (ad a), .int p0, .int p1, .int p2, .int p3, .int p4, .int p5] : List Value).toArray below meth c H locs 0 0 (MQ below (va_Qv (fun (_ : Unit) => True) (fun _ t => kE D ct ad G A y t) A) ([.ref (ad a), .int p0, .int p1, .int p2, .int p3, .int p4, .int p5] : List Value).toArray s 0 0 A) (F0 m 301 ls [.int y258, .int p1, .ref (ad a)]) := by
                                  intro H locs ls hP hD hS hl
                                  obtain ⟨y259, hy259, hF⟩ := bnd_some hF
                                  have hf9 := wA_in hD hA9 hS
                                  refine va_callv (va_runV (As := [.int p1, .int y258]) (rest := []) ⟨hx, hb, hml, hown, hts⟩ (kX9_adopt l D ct ad Z G y15.1 H.size a p1 y258 y259 hc hk hy259) (cwV 2 hts gX9_guess_X9_adopt rfl rfl rfl (by decide +kernel) ⟨Nat.le_of_ble_eq_true rfl, Nat.le_of_ble_eq_true rfl⟩) ⟨fun a U g mk q => by obtain ⟨q0, q1, qP, qK, qD, qZ, qN⟩ := q; exact ⟨q0, q1, qP, va_K.moved (u := U) (U := U.calling g mk a) (Vm.Alike.refl U.vm) qK, qD, sF.moved (u := U) (U := U.calling g mk a) (Vm.Alike.refl U.vm) qZ, nF.same rfl qN⟩, va_recv hK hP (ci := 9) (q0 := a) rfl (wld_o ct ad G y15.1 hc hk (by decide)), fun U hU hW => ⟨rfl, by rw [hU], by rw [hU]; exact hP, va_K.moved hW.alike hK, hD.weaken (fun _ _ _ _ => trivial), by rw [hU]; exact ((hZ.kept hS.2.1).narrow hf9).moved hW.alike, hN.warm hW⟩⟩ rfl rfl hl.1 rfl (lv_room (Nat.le_of_ble_eq_true rfl)) dX9_guess_301 ⟨(Nat.zero_le _), (Nat.zero_le _)⟩) hS (fun q _ h => hf9 q h) hf9 (fun u t H locs ht hvm hw hB hz1 hk1 hS => ?_)
                                  obtain ⟨hP, hK9, hD9⟩ := hB
                                  rw [ht] at hP
                                  have hD := hD9.weaken (fun _ q _ h => hf9 q.1 h)
                                  refine lv_goto (tgt := 318) hx hb dX9_guess_304 (by decide) ?_
                                  obtain rfl := Option.some.inj hF
                                  exact J255 _ _ _ hP hD hS (lv_sub hl [0, 1, 2, 3, 4, 5, 6, 7, 8, 9, 10, 11, 12, 13, 14, 15] rfl)
                                clear hF
                                have hF := hy258
                                clear hy258
                                refine lv_if_eq (tgt := 289) hx hb dX9_guess_281 (by decide) (fun c260 => ?_) (fun c260 => ?_)
                                · rw [if_pos c260] at hF
                                  refine lv_iload hx hb dX9_guess_289 (lv_at hl 2 rfl) ?_
                                  obtain ⟨y261, hy261, hF⟩ := bnd_some hF
                                  have J261 : ∀ (H : Heap) (locs : List Loc) (ls : Array Slot), va_P D classes (wld ct ad G y15.1) H → va_D A (wld ct ad G y15.1) → va_S A s.heap H locs → lv_has ls 16 [(15, .int x21), (14, .int y16), (13, .int y14), (12, .int y12), (11, .int y10.1), (10, .int y6.2), (9, .int y4.2), (8, .int y2.2), (7, .int y1.2), (0, .ref (ad a)), (1, .int p0), (2, .int p1), (3, .int p2), (4, .int p3), (5, .int p4), (6, .int p5)] → W p l e (headSpec wuX9_guess ({ frames := 1, cells := 0, slots := 0, locals := 34 })).room s m ([.ref (ad a), .int p0, .int p1, .int p2, .int p3, .int p4, .int p5] : List Value).toArray below meth c H locs 0 0 (MQ below (va_Qv (fun (_ : Unit) => True) (fun _ t => kE D ct ad G A y t) A) ([.ref (ad a), .int p0, .int p1, .int p2, .int p3, .int p4, .int p5] : List Value).toArray s 0 0 A) (F0 m 301 ls [.int y261, .int p1, .ref (ad a)]) := by
                                    intro H locs ls hP hD hS hl
                                    obtain rfl := Option.some.inj hF
                                    exact J258 _ _ _ hP hD hS (lv_sub hl [0, 1, 2, 3, 4, 5, 6, 7, 8, 9, 10, 11, 12, 13, 14, 15] rfl)
                                  clear hF
                                  have hF := hy261
                                  clear hy261
                                  refine lv_if_eq (tgt := 299) hx hb dX9_guess_291 (by decide) (fun c262 => ?_) (fun c262 => ?_)
                                  · rw [if_pos c262] at hF
                                    refine lv_iload hx hb dX9_guess_299 (lv_at hl 4 rfl) ?_
                                    obtain rfl := Option.some.inj hF
                                    exact J261 _ _ _ hP hD hS (lv_sub hl [0, 1, 2, 3, 4, 5, 6, 7, 8, 9, 10, 11, 12, 13, 14, 15] rfl)
                                  · rw [if_neg c262] at hF
                                    refine lv_iload hx hb dX9_guess_294 (lv_at hl 5 rfl) ?_
                                    refine lv_goto (tgt := 301) hx hb dX9_guess_296 (by decide) ?_
                                    obtain rfl := Option.some.inj hF
                                    exact J261 _ _ _ hP hD hS (lv_sub hl [0, 1, 2, 3, 4, 5, 6, 7, 8, 9, 10, 11, 12, 13, 14, 15] rfl)
                                · rw [if_neg c260] at hF
                                  refine lv_iload hx hb dX9_guess_284 (lv_at hl 6 rfl) ?_
                                  refine lv_goto (tgt := 301) hx hb dX9_guess_286 (by decide) ?_
                                  obtain rfl := Option.some.inj hF
                                  exact J258 _ _ _ hP hD hS (lv_sub hl [0, 1, 2, 3, 4, 5, 6, 7, 8, 9, 10, 11, 12, 13, 14, 15] rfl)
                            · rw [if_neg c254] at hF
                              refine lv_iload hx hb dX9_guess_256 (lv_at hl 6 rfl) ?_
                              obtain ⟨y263, hy263, hF⟩ := bnd_some hF
                              have J263 : ∀ (H : Heap) (locs : List Loc) (ls : Array Slot), va_P D classes (wld ct ad G y263) H → va_D A (wld ct ad G y263) → va_S A s.heap H locs → lv_has ls 16 [(15, .int x21), (14, .int y16), (13, .int y14), (12, .int y12), (11, .int y10.1), (10, .int y6.2), (9, .int y4.2), (8, .int y2.2), (7, .int y1.2), (0, .ref (ad a)), (1, .int p0), (2, .int p1), (3, .int p2), (4, .int p3), (5, .int p4), (6, .int p5)] → W p l e (headSpec wuX9_guess ({ frames := 1, cells := 0, slots := 0, locals := 34 })).room s m ([.ref (ad a), .int p0, .int p1, .int p2, .int p3, .int p4, .int p5] : List Value).toArray below meth c H locs 0 0 (MQ below (va_Qv (fun (_ : Unit) => True) (fun _ t => kE D ct ad G A y t) A) ([.ref (ad a), .int p0, .int p1, .int p2, .int p3, .int p4, .int p5] : List Value).toArray s 0 0 A) (F0 m 318 ls []) := by
                                intro H locs ls hP hD hS hl
                                obtain rfl := Option.some.inj hF
                                exact J253 _ _ _ hP hD hS (lv_sub hl [0, 1, 2, 3, 4, 5, 6, 7, 8, 9, 10, 11, 12, 13, 14, 15] rfl)
                              clear hF
                              have hF := hy263
                              clear hy263
                              refine lv_if_lt (tgt := 271) hx hb dX9_guess_258 (by decide) (fun c264 => ?_) (fun c264 => ?_)
                              · rw [if_pos c264] at hF
                                refine lv_iload hx hb dX9_guess_271 (lv_at hl 0 rfl) ?_
                                refine lv_iconst (v := (1 : Int32)) hx hb dX9_guess_273 (by decide) ?_
                                obtain ⟨y265, hy265, hF⟩ := bnd_some hF
                                have J265 : ∀ (H : Heap) (locs : List Loc) (ls : Array Slot), va_P D classes (wld ct ad G y265) H → va_D A (wld ct ad G y265) → va_S A s.heap H locs → lv_has ls 16 [(15, .int x21), (14, .int y16), (13, .int y14), (12, .int y12), (11, .int y10.1), (10, .int y6.2), (9, .int y4.2), (8, .int y2.2), (7, .int y1.2), (0, .ref (ad a)), (1, .int p0), (2, .int p1), (3, .int p2), (4, .int p3), (5, .int p4), (6, .int p5)] → W p l e (headSpec wuX9_guess ({ frames := 1, cells := 0, slots := 0, locals := 34 })).room s m ([.ref (ad a), .int p0, .int p1, .int p2, .int p3, .int p4, .int p5] : List Value).toArray below meth c H locs 0 0 (MQ below (va_Qv (fun (_ : Unit) => True) (fun _ t => kE D ct ad G A y t) A) ([.ref (ad a), .int p0, .int p1, .int p2, .int p3, .int p4, .int p5] : List Value).toArray s 0 0 A) (F0 m 318 ls []) := by
                                  intro H locs ls hP hD hS hl
                                  obtain rfl := Option.some.inj hF
                                  exact J263 _ _ _ hP hD hS (lv_sub hl [0, 1, 2, 3, 4, 5, 6, 7, 8, 9, 10, 11, 12, 13, 14, 15] rfl)
                                clear hF
                                have hF := hy265
                                clear hy265
                                refine lv_icmp_ne (tgt := 307) hx hb dX9_guess_274 (by decide) (fun c266 => ?_) (fun c266 => ?_)
                                · rw [if_neg c266] at hF
                                  refine lv_aload_n hx hb dX9_guess_307 rfl (lv_at hl 9 rfl) ?_
                                  refine lv_iload_n hx hb dX9_guess_308 rfl (lv_at hl 11 rfl) ?_
                                  refine lv_iload hx hb dX9_guess_309 (lv_at hl 6 rfl) ?_
                                  refine lv_iload hx hb dX9_guess_311 (lv_at hl 5 rfl) ?_
                                  refine lv_iload hx hb dX9_guess_313 (lv_at hl 4 rfl) ?_
                                  obtain ⟨y267, hy267, hF⟩ := bnd_some hF
                                  have hf9 := wA_in hD hA9 hS
                                  refine va_callv (va_runV (As := [.int p1, .int y4.2, .int y6.2, .int y10.1]) (rest := []) ⟨hx, hb, hml, hown, hts⟩ (kX9_adoptMedian l D ct ad Z G y15.1 H.size a p1 y4.2 y6.2 y10.1 y267 hc hk hy267) (cwV 4 hts gX9_guess_X9_adoptMedian rfl rfl rfl (by decide +kernel) ⟨Nat.le_of_ble_eq_true rfl, Nat.le_of_ble_eq_true rfl⟩) ⟨fun a U g mk q => by obtain ⟨q0, q1, qP, qK, qD, qZ, qN⟩ := q; exact ⟨q0, q1, qP, va_K.moved (u := U) (U := U.calling g mk a) (Vm.Alike.refl U.vm) qK, qD, sF.moved (u := U) (U := U.calling g mk a) (Vm.Alike.refl U.vm) qZ, nF.same rfl qN⟩, va_recv hK hP (ci := 9) (q0 := a) rfl (wld_o ct ad G y15.1 hc hk (by decide)), fun U hU hW => ⟨rfl, by rw [hU], by rw [hU]; exact hP, va_K.moved hW.alike hK, hD.weaken (fun _ _ _ _ => trivial), by rw [hU]; exact ((hZ.kept hS.2.1).narrow hf9).moved hW.alike, hN.warm hW⟩⟩ rfl rfl hl.1 rfl (lv_room (Nat.le_of_ble_eq_true rfl)) dX9_guess_315 ⟨(Nat.zero_le _), (Nat.zero_le _)⟩) hS (fun q _ h => hf9 q h) hf9 (fun u t H locs ht hvm hw hB hz1 hk1 hS => ?_)
                                  obtain ⟨hP, hK9, hD9⟩ := hB
                                  rw [ht] at hP
                                  have hD := hD9.weaken (fun _ q _ h => hf9 q.1 h)
                                  obtain rfl := Option.some.inj hF
                                  exact J265 _ _ _ hP hD hS (lv_sub hl [0, 1, 2, 3, 4, 5, 6, 7, 8, 9, 10, 11, 12, 13, 14, 15] rfl)
                                · rw [if_pos c266] at hF
                                  refine lv_aload_n hx hb dX9_guess_277 rfl (lv_at hl 9 rfl) ?_
                                  refine lv_iload_n hx hb dX9_guess_278 rfl (lv_at hl 11 rfl) ?_
                                  refine lv_iload hx hb dX9_guess_279 (lv_at hl 3 rfl) ?_
                                  obtain ⟨y268, hy268, hF⟩ := bnd_some hF
                                  have J268 : ∀ (H : Heap) (locs : List Loc) (ls : Array Slot), va_P D classes (wld ct ad G y15.1) H → va_D A (wld ct ad G y15.1) → va_S A s.heap H locs → lv_has ls 16 [(15, .int x21), (14, .int y16), (13, .int y14), (12, .int y12), (11, .int y10.1), (10, .int y6.2), (9, .int y4.2), (8, .int y2.2), (7, .int y1.2), (0, .ref (ad a)), (1, .int p0), (2, .int p1), (3, .int p2), (4, .int p3), (5, .int p4), (6, .int p5)] → W p l e (headSpec wuX9_guess ({ frames := 1, cells := 0, slots := 0, locals := 34 })).room s m ([.ref (ad a), .int p0, .int p1, .int p2, .int p3, .int p4, .int p5] : List Value).toArray below meth c H locs 0 0 (MQ below (va_Qv (fun (_ : Unit) => True) (fun _ t => kE D ct ad G A y t) A) ([.ref (ad a), .int p0, .int p1, .int p2, .int p3, .int p4, .int p5] : List Value).toArray s 0 0 A) (F0 m 301 ls [.int y268, .int p1, .ref (ad a)]) := by
                                    intro H locs ls hP hD hS hl
                                    obtain ⟨y269, hy269, hF⟩ := bnd_some hF
                                    have hf9 := wA_in hD hA9 hS
                                    refine va_callv (va_runV (As := [.int p1, .int y268]) (rest := []) ⟨hx, hb, hml, hown, hts⟩ (kX9_adopt l D ct ad Z G y15.1 H.size a p1 y268 y269 hc hk hy269) (cwV 2 hts gX9_guess_X9_adopt rfl rfl rfl (by decide +kernel) ⟨Nat.le_of_ble_eq_true rfl, Nat.le_of_ble_eq_true rfl⟩) ⟨fun a U g mk q => by obtain ⟨q0, q1, qP, qK, qD, qZ, qN⟩ := q; exact ⟨q0, q1, qP, va_K.moved (u := U) (U := U.calling g mk a) (Vm.Alike.refl U.vm) qK, qD, sF.moved (u := U) (U := U.calling g mk a) (Vm.Alike.refl U.vm) qZ, nF.same rfl qN⟩, va_recv hK hP (ci := 9) (q0 := a) rfl (wld_o ct ad G y15.1 hc hk (by decide)), fun U hU hW => ⟨rfl, by rw [hU], by rw [hU]; exact hP, va_K.moved hW.alike hK, hD.weaken (fun _ _ _ _ => trivial), by rw [hU]; exact ((hZ.kept hS.2.1).narrow hf9).moved hW.alike, hN.warm hW⟩⟩ rfl rfl hl.1 rfl (lv_room (Nat.le_of_ble_eq_true rfl)) dX9_guess_301 ⟨(Nat.zero_le _), (Nat.zero_le _)⟩) hS (fun q _ h => hf9 q h) hf9 (fun u t H locs ht hvm hw hB hz1 hk1 hS => ?_)
                                    obtain ⟨hP, hK9, hD9⟩ := hB
                                    rw [ht] at hP
                                    have hD := hD9.weaken (fun _ q _ h => hf9 q.1 h)
                                    refine lv_goto (tgt := 318) hx hb dX9_guess_304 (by decide) ?_
                                    obtain rfl := Option.some.inj hF
                                    exact J265 _ _ _ hP hD hS (lv_sub hl [0, 1, 2, 3, 4, 5, 6, 7, 8, 9, 10, 11, 12, 13, 14, 15] rfl)
                                  clear hF
                                  have hF := hy268
                                  clear hy268
                                  refine lv_if_eq (tgt := 289) hx hb dX9_guess_281 (by decide) (fun c270 => ?_) (fun c270 => ?_)
                                  · rw [if_pos c270] at hF
                                    refine lv_iload hx hb dX9_guess_289 (lv_at hl 2 rfl) ?_
                                    obtain ⟨y271, hy271, hF⟩ := bnd_some hF
                                    have J271 : ∀ (H : Heap) (locs : List Loc) (ls : Array Slot), va_P D classes (wld ct ad G y15.1) H → va_D A (wld ct ad G y15.1) → va_S A s.heap H locs → lv_has ls 16 [(15, .int x21), (14, .int y16), (13, .int y14), (12, .int y12), (11, .int y10.1), (10, .int y6.2), (9, .int y4.2), (8, .int y2.2), (7, .int y1.2), (0, .ref (ad a)), (1, .int p0), (2, .int p1), (3, .int p2), (4, .int p3), (5, .int p4), (6, .int p5)] → W p l e (headSpec wuX9_guess ({ frames := 1, cells := 0, slots := 0, locals := 34 })).room s m ([.ref (ad a), .int p0, .int p1, .int p2, .int p3, .int p4, .int p5] : List Value).toArray below meth c H locs 0 0 (MQ below (va_Qv (fun (_ : Unit) => True) (fun _ t => kE D ct ad G A y t) A) ([.ref (ad a), .int p0, .int p1, .int p2, .int p3, .int p4, .int p5] : List Value).toArray s 0 0 A) (F0 m 301 ls [.int y271, .int p1, .ref (ad a)]) := by
                                      intro H locs ls hP hD hS hl
                                      obtain rfl := Option.some.inj hF
                                      exact J268 _ _ _ hP hD hS (lv_sub hl [0, 1, 2, 3, 4, 5, 6, 7, 8, 9, 10, 11, 12, 13, 14, 15] rfl)
                                    clear hF
                                    have hF := hy271
                                    clear hy271
                                    refine lv_if_eq (tgt := 299) hx hb dX9_guess_291 (by decide) (fun c272 => ?_) (fun c272 => ?_)
                                    · rw [if_pos c272] at hF
                                      refine lv_iload hx hb dX9_guess_299 (lv_at hl 4 rfl) ?_
                                      obtain rfl := Option.some.inj hF
                                      exact J271 _ _ _ hP hD hS (lv_sub hl [0, 1, 2, 3, 4, 5, 6, 7, 8, 9, 10, 11, 12, 13, 14, 15] rfl)
                                    · rw [if_neg c272] at hF
                                      refine lv_iload hx hb dX9_guess_294 (lv_at hl 5 rfl) ?_
                                      refine lv_goto (tgt := 301) hx hb dX9_guess_296 (by decide) ?_
                                      obtain rfl := Option.some.inj hF
                                      exact J271 _ _ _ hP hD hS (lv_sub hl [0, 1, 2, 3, 4, 5, 6, 7, 8, 9, 10, 11, 12, 13, 14, 15] rfl)
                                  · rw [if_neg c270] at hF
                                    refine lv_iload hx hb dX9_guess_284 (lv_at hl 6 rfl) ?_
                                    refine lv_goto (tgt := 301) hx hb dX9_guess_286 (by decide) ?_
                                    obtain rfl := Option.some.inj hF
                                    exact J268 _ _ _ hP hD hS (lv_sub hl [0, 1, 2, 3, 4, 5, 6, 7, 8, 9, 10, 11, 12, 13, 14, 15] rfl)
                              · rw [if_neg c264] at hF
                                refine lv_aload_n hx hb dX9_guess_261 rfl (lv_at hl 9 rfl) ?_
                                refine lv_iload_n hx hb dX9_guess_262 rfl (lv_at hl 11 rfl) ?_
                                refine lv_iload hx hb dX9_guess_263 (lv_at hl 6 rfl) ?_
                                obtain ⟨y273, hy273, hF⟩ := bnd_some hF
                                have hf9 := wA_in hD hA9 hS
                                refine va_callv (va_runV (As := [.int p1, .int y4.2]) (rest := []) ⟨hx, hb, hml, hown, hts⟩ (kX9_adopt l D ct ad Z G y15.1 H.size a p1 y4.2 y273 hc hk hy273) (cwV 2 hts gX9_guess_X9_adopt rfl rfl rfl (by decide +kernel) ⟨Nat.le_of_ble_eq_true rfl, Nat.le_of_ble_eq_true rfl⟩) ⟨fun a U g mk q => by obtain ⟨q0, q1, qP, qK, qD, qZ, qN⟩ := q; exact ⟨q0, q1, qP, va_K.moved (u := U) (U := U.calling g mk a) (Vm.Alike.refl U.vm) qK, qD, sF.moved (u := U) (U := U.calling g mk a) (Vm.Alike.refl U.vm) qZ, nF.same rfl qN⟩, va_recv hK hP (ci := 9) (q0 := a) rfl (wld_o ct ad G y15.1 hc hk (by decide)), fun U hU hW => ⟨rfl, by rw [hU], by rw [hU]; exact hP, va_K.moved hW.alike hK, hD.weaken (fun _ _ _ _ => trivial), by rw [hU]; exact ((hZ.kept hS.2.1).narrow hf9).moved hW.alike, hN.warm hW⟩⟩ rfl rfl hl.1 rfl (lv_room (Nat.le_of_ble_eq_true rfl)) dX9_guess_265 ⟨(Nat.zero_le _), (Nat.zero_le _)⟩) hS (fun q _ h => hf9 q h) hf9 (fun u t H locs ht hvm hw hB hz1 hk1 hS => ?_)
                                obtain ⟨hP, hK9, hD9⟩ := hB
                                rw [ht] at hP
                                have hD := hD9.weaken (fun _ q _ h => hf9 q.1 h)
                                refine lv_goto (tgt := 318) hx hb dX9_guess_268 (by decide) ?_
                                obtain rfl := Option.some.inj hF
                                exact J263 _ _ _ hP hD hS (lv_sub hl [0, 1, 2, 3, 4, 5, 6, 7, 8, 9, 10, 11, 12, 13, 14, 15] rfl)
                        · rw [if_pos c242] at hF
                          refine lv_iload hx hb dX9_guess_231 (lv_at hl 1 rfl) ?_
                          obtain ⟨y274, hy274, hF⟩ := bnd_some hF
                          have J274 : ∀ (H : Heap) (locs : List Loc) (ls : Array Slot), va_P D classes (wld ct ad G y274) H → va_D A (wld ct ad G y274) → va_S A s.heap H locs → lv_has ls 16 [(15, .int x21), (14, .int y16), (13, .int y14), (12, .int y12), (11, .int y10.1), (10, .int y6.2), (9, .int y4.2), (8, .int y2.2), (7, .int y1.2), (0, .ref (ad a)), (1, .int p0), (2, .int p1), (3, .int p2), (4, .int p3), (5, .int p4), (6, .int p5)] → W p l e (headSpec wuX9_guess ({ frames := 1, cells := 0, slots := 0, locals := 34 })).room s m ([.ref (ad a), .int p0, .int p1, .int p2, .int p3, .int p4, .int p5] : List Value).toArray below meth c H locs 0 0 (MQ below (va_Qv (fun (_ : Unit) => True) (fun _ t => kE D ct ad G A y t) A) ([.ref (ad a), .int p0, .int p1, .int p2, .int p3, .int p4, .int p5] : List Value).toArray s 0 0 A) (F0 m 318 ls []) := by
                            intro H locs ls hP hD hS hl
                            obtain rfl := Option.some.inj hF
                            exact J241 _ _ _ hP hD hS (lv_sub hl [0, 1, 2, 3, 4, 5, 6, 7, 8, 9, 10, 11, 12, 13, 14, 15] rfl)
                          clear hF
                          have hF := hy274
                          clear hy274
                          refine lv_if_eq (tgt := 246) hx hb dX9_guess_233 (by decide) (fun c275 => ?_) (fun c275 => ?_)
                          · rw [if_pos c275] at hF
                            refine lv_iload hx hb dX9_guess_246 (lv_at hl 5 rfl) ?_
                            obtain ⟨y276, hy276, hF⟩ := bnd_some hF
                            have J276 : ∀ (H : Heap) (locs : List Loc) (ls : Array Slot), va_P D classes (wld ct ad G y276) H → va_D A (wld ct ad G y276) → va_S A s.heap H locs → lv_has ls 16 [(15, .int x21), (14, .int y16), (13, .int y14), (12, .int y12), (11, .int y10.1), (10, .int y6.2), (9, .int y4.2), (8, .int y2.2), (7, .int y1.2), (0, .ref (ad a)), (1, .int p0), (2, .int p1), (3, .int p2), (4, .int p3), (5, .int p4), (6, .int p5)] → W p l e (headSpec wuX9_guess ({ frames := 1, cells := 0, slots := 0, locals := 34 })).room s m ([.ref (ad a), .int p0, .int p1, .int p2, .int p3, .int p4, .int p5] : List Value).toArray below meth c H locs 0 0 (MQ below (va_Qv (fun (_ : Unit) => True) (fun _ t => kE D ct ad G A y t) A) ([.ref (ad a), .int p0, .int p1, .int p2, .int p3, .int p4, .int p5] : List Value).toArray s 0 0 A) (F0 m 318 ls []) := by
                              intro H locs ls hP hD hS hl
                              obtain rfl := Option.some.inj hF
                              exact J274 _ _ _ hP hD hS (lv_sub hl [0, 1, 2, 3, 4, 5, 6, 7, 8, 9, 10, 11, 12, 13, 14, 15] rfl)
                            clear hF
                            have hF := hy276
                            clear hy276
                            refine lv_if_ge (tgt := 271) hx hb dX9_guess_248 (by decide) (fun c277 => ?_) (fun c277 => ?_)
                            · rw [if_pos c277] at hF
                              refine lv_iload hx hb dX9_guess_271 (lv_at hl 0 rfl) ?_
                              refine lv_iconst (v := (1 : Int32)) hx hb dX9_guess_273 (by decide) ?_
                              obtain ⟨y278, hy278, hF⟩ := bnd_some hF
                              have J278 : ∀ (H : Heap) (locs : List Loc) (ls : Array Slot), va_P D classes (wld ct ad G y278) H → va_D A (wld ct ad G y278) → va_S A s.heap H locs → lv_has ls 16 [(15, .int x21), (14, .int y16), (13, .int y14), (12, .int y12), (11, .int y10.1), (10, .int y6.2), (9, .int y4.2), (8, .int y2.2), (7, .int y1.2), (0, .ref (ad a)), (1, .int p0), (2, .int p1), (3, .int p2), (4, .int p3), (5, .int p4), (6, .int p5)] → W p l e (headSpec wuX9_guess ({ frames := 1, cells := 0, slots := 0, locals := 34 })).room s m ([.ref (ad a), .int p0, .int p1, .int p2, .int p3, .int p4, .int p5] : List Value).toArray below meth c H locs 0 0 (MQ below (va_Qv (fun (_ : Unit) => True) (fun _ t => kE D ct ad G A y t) A) ([.ref (ad a), .int p0, .int p1, .int p2, .int p3, .int p4, .int p5] : List Value).toArray s 0 0 A) (F0 m 318 ls []) := by
                                intro H locs ls hP hD hS hl
                                obtain rfl := Option.some.inj hF
                                exact J276 _ _ _ hP hD hS (lv_sub hl [0, 1, 2, 3, 4, 5, 6, 7, 8, 9, 10, 11, 12, 13, 14, 15] rfl)
                              clear hF
                              have hF := hy278
                              clear hy278
                              refine lv_icmp_ne (tgt := 307) hx hb dX9_guess_274 (by decide) (fun c279 => ?_) (fun c279 => ?_)
                              · rw [if_neg c279] at hF
                                refine lv_aload_n hx hb dX9_guess_307 rfl (lv_at hl 9 rfl) ?_
                                refine lv_iload_n hx hb dX9_guess_308 rfl (lv_at hl 11 rfl) ?_
                                refine lv_iload hx hb dX9_guess_309 (lv_at hl 6 rfl) ?_
                                refine lv_iload hx hb dX9_guess_311 (lv_at hl 5 rfl) ?_
                                refine lv_iload hx hb dX9_guess_313 (lv_at hl 4 rfl) ?_
                                obtain ⟨y280, hy280, hF⟩ := bnd_some hF
                                have hf9 := wA_in hD hA9 hS
                                refine va_callv (va_runV (As := [.int p1, .int y4.2, .int y6.2, .int y10.1]) (rest := []) ⟨hx, hb, hml, hown, hts⟩ (kX9_adoptMedian l D ct ad Z G y15.1 H.size a p1 y4.2 y6.2 y10.1 y280 hc hk hy280) (cwV 4 hts gX9_guess_X9_adoptMedian rfl rfl rfl (by decide +kernel) ⟨Nat.le_of_ble_eq_true rfl, Nat.le_of_ble_eq_true rfl⟩) ⟨fun a U g mk q => by obtain ⟨q0, q1, qP, qK, qD, qZ, qN⟩ := q; exact ⟨q0, q1, qP, va_K.moved (u := U) (U := U.calling g mk a) (Vm.Alike.refl U.vm) qK, qD, sF.moved (u := U) (U := U.calling g mk a) (Vm.Alike.refl U.vm) qZ, nF.same rfl qN⟩, va_recv hK hP (ci := 9) (q0 := a) rfl (wld_o ct ad G y15.1 hc hk (by decide)), fun U hU hW => ⟨rfl, by rw [hU], by rw [hU]; exact hP, va_K.moved hW.alike hK, hD.weaken (fun _ _ _ _ => trivial), by rw [hU]; exact ((hZ.kept hS.2.1).narrow hf9).moved hW.alike, hN.warm hW⟩⟩ rfl rfl hl.1 rfl (lv_room (Nat.le_of_ble_eq_true rfl)) dX9_guess_315 ⟨(Nat.zero_le _), (Nat.zero_le _)⟩) hS (fun q _ h => hf9 q h) hf9 (fun u t H locs ht hvm hw hB hz1 hk1 hS => ?_)
                                obtain ⟨hP, hK9, hD9⟩ := hB
                                rw [ht] at hP
                                have hD := hD9.weaken (fun _ q _ h => hf9 q.1 h)
                                obtain rfl := Option.some.inj hF
                                exact J278 _ _ _ hP hD hS (lv_sub hl [0, 1, 2, 3, 4, 5, 6, 7, 8, 9, 10, 11, 12, 13, 14, 15] rfl)
                              · rw [if_pos c279] at hF
                                refine lv_aload_n hx hb dX9_guess_277 rfl (lv_at hl 9 rfl) ?_
                                refine lv_iload_n hx hb dX9_guess_278 rfl (lv_at hl 11 rfl) ?_
                                refine lv_iload hx hb dX9_guess_279 (lv_at hl 3 rfl) ?_
                                obtain ⟨y281, hy281, hF⟩ := bnd_some hF
                                have J281 : ∀ (H : Heap) (locs : List Loc) (ls : Array Slot), va_P D classes (wld ct ad G y15.1) H → va_D A (wld ct ad G y15.1) → va_S A s.heap H locs → lv_has ls 16 [(15, .int x21), (14, .int y16), (13, .int y14), (12, .int y12), (11, .int y10.1), (10, .int y6.2), (9, .int y4.2), (8, .int y2.2), (7, .int y1.2), (0, .ref (ad a)), (1, .int p0), (2, .int p1), (3, .int p2), (4, .int p3), (5, .int p4), (6, .int p5)] → W p l e (headSpec wuX9_guess ({ frames := 1, cells := 0, slots := 0, locals := 34 })).room s m ([.ref (ad a), .int p0, .int p1, .int p2, .int p3, .int p4, .int p5] : List Value).toArray below meth c H locs 0 0 (MQ below (va_Qv (fun (_ : Unit) => True) (fun _ t => kE D ct ad G A y t) A) ([.ref (ad a), .int p0, .int p1, .int p2, .int p3, .int p4, .int p5] : List Value).toArray s 0 0 A) (F0 m 301 ls [.int y281, .int p1, .ref (ad a)]) := by
                                  intro H locs ls hP hD hS hl
                                  obtain ⟨y282, hy282, hF⟩ := bnd_some hF
                                  have hf9 := wA_in hD hA9 hS
                                  refine va_callv (va_runV (As := [.int p1, .int y281]) (rest := []) ⟨hx, hb, hml, hown, hts⟩ (kX9_adopt l D ct ad Z G y15.1 H.size a p1 y281 y282 hc hk hy282) (cwV 2 hts gX9_guess_X9_adopt rfl rfl rfl (by decide +kernel) ⟨Nat.le_of_ble_eq_true rfl, Nat.le_of_ble_eq_true rfl⟩) ⟨fun a U g mk q => by obtain ⟨q0, q1, qP, qK, qD, qZ, qN⟩ := q; exact ⟨q0, q1, qP, va_K.moved (u := U) (U := U.calling g mk a) (Vm.Alike.refl U.vm) qK, qD, sF.moved (u := U) (U := U.calling g mk a) (Vm.Alike.refl U.vm) qZ, nF.same rfl qN⟩, va_recv hK hP (ci := 9) (q0 := a) rfl (wld_o ct ad G y15.1 hc hk (by decide)), fun U hU hW => ⟨rfl, by rw [hU], by rw [hU]; exact hP, va_K.moved hW.alike hK, hD.weaken (fun _ _ _ _ => trivial), by rw [hU]; exact ((hZ.kept hS.2.1).narrow hf9).moved hW.alike, hN.warm hW⟩⟩ rfl rfl hl.1 rfl (lv_room (Nat.le_of_ble_eq_true rfl)) dX9_guess_301 ⟨(Nat.zero_le _), (Nat.zero_le _)⟩) hS (fun q _ h => hf9 q h) hf9 (fun u t H locs ht hvm hw hB hz1 hk1 hS => ?_)
                                  obtain ⟨hP, hK9, hD9⟩ := hB
                                  rw [ht] at hP
                                  have hD := hD9.weaken (fun _ q _ h => hf9 q.1 h)
                                  refine lv_goto (tgt := 318) hx hb dX9_guess_304 (by decide) ?_
                                  obtain rfl := Option.some.inj hF
                                  exact J278 _ _ _ hP hD hS (lv_sub hl [0, 1, 2, 3, 4, 5, 6, 7, 8, 9, 10, 11, 12, 13, 14, 15] rfl)
                                clear hF
                                have hF := hy281
                                clear hy281
                                refine lv_if_eq (tgt := 289) hx hb dX9_guess_281 (by decide) (fun c283 => ?_) (fun c283 => ?_)
                                · rw [if_pos c283] at hF
                                  refine lv_iload hx hb dX9_guess_289 (lv_at hl 2 rfl) ?_
                                  obtain ⟨y284, hy284, hF⟩ := bnd_some hF
                                  have J284 : ∀ (H : Heap) (locs : List Loc) (ls : Array Slot), va_P D classes (wld ct ad G y15.1) H → va_D A (wld ct ad G y15.1) → va_S A s.heap H locs → lv_has ls 16 [(15, .int x21), (14, .int y16), (13, .int y14), (12, .int y12), (11, .int y10.1), (10, .int y6.2), (9, .int y4.2), (8, .int y2.2), (7, .int y1.2), (0, .ref (ad a)), (1, .int p0), (2, .int p1), (3, .int p2), (4, .int p3), (5, .int p4), (6, .int p5)] → W p l e (headSpec wuX9_guess ({ frames := 1, cells := 0, slots := 0, locals := 34 })).room s m ([.ref (ad a), .int p0, .int p1, .int p2, .int p3, .int p4, .int p5] : List Value).toArray below meth c H locs 0 0 (MQ below (va_Qv (fun (_ : Unit) => True) (fun _ t => kE D ct ad G A y t) A) ([.ref (ad a), .int p0, .int p1, .int p2, .int p3, .int p4, .int p5] : List Value).toArray s 0 0 A) (F0 m 301 ls [.int y284, .int p1, .ref (ad a)]) := by
                                    intro H locs ls hP hD hS hl
                                    obtain rfl := Option.some.inj hF
                                    exact J281 _ _ _ hP hD hS (lv_sub hl [0, 1, 2, 3, 4, 5, 6, 7, 8, 9, 10, 11, 12, 13, 14, 15] rfl)
                                  clear hF
                                  have hF := hy284
                                  clear hy284
                                  refine lv_if_eq (tgt := 299) hx hb dX9_guess_291 (by decide) (fun c285 => ?_) (fun c285 => ?_)
                                  · rw [if_pos c285] at hF
                                    refine lv_iload hx hb dX9_guess_299 (lv_at hl 4 rfl) ?_
                                    obtain rfl := Option.some.inj hF
                                    exact J284 _ _ _ hP hD hS (lv_sub hl [0, 1, 2, 3, 4, 5, 6, 7, 8, 9, 10, 11, 12, 13, 14, 15] rfl)
                                  · rw [if_neg c285] at hF
                                    refine lv_iload hx hb dX9_guess_294 (lv_at hl 5 rfl) ?_
                                    refine lv_goto (tgt := 301) hx hb dX9_guess_296 (by decide) ?_
                                    obtain rfl := Option.some.inj hF
                                    exact J284 _ _ _ hP hD hS (lv_sub hl [0, 1, 2, 3, 4, 5, 6, 7, 8, 9, 10, 11, 12, 13, 14, 15] rfl)
                                · rw [if_neg c283] at hF
                                  refine lv_iload hx hb dX9_guess_284 (lv_at hl 6 rfl) ?_
                                  refine lv_goto (tgt := 301) hx hb dX9_guess_286 (by decide) ?_
                                  obtain rfl := Option.some.inj hF
                                  exact J281 _ _ _ hP hD hS (lv_sub hl [0, 1, 2, 3, 4, 5, 6, 7, 8, 9, 10, 11, 12, 13, 14, 15] rfl)
                            · rw [if_neg c277] at hF
                              refine lv_iload hx hb dX9_guess_251 (lv_at hl 4 rfl) ?_
                              obtain ⟨y286, hy286, hF⟩ := bnd_some hF
                              have J286 : ∀ (H : Heap) (locs : List Loc) (ls : Array Slot), va_P D classes (wld ct ad G y286) H → va_D A (wld ct ad G y286) → va_S A s.heap H locs → lv_has ls 16 [(15, .int x21), (14, .int y16), (13, .int y14), (12, .int y12), (11, .int y10.1), (10, .int y6.2), (9, .int y4.2), (8, .int y2.2), (7, .int y1.2), (0, .ref (ad a)), (1, .int p0), (2, .int p1), (3, .int p2), (4, .int p3), (5, .int p4), (6, .int p5)] → W p l e (headSpec wuX9_guess ({ frames := 1, cells := 0, slots := 0, locals := 34 })).room s m ([.ref (ad a), .int p0, .int p1, .int p2, .int p3, .int p4, .int p5] : List Value).toArray below meth c H locs 0 0 (MQ below (va_Qv (fun (_ : Unit) => True) (fun _ t => kE D ct ad G A y t) A) ([.ref (ad a), .int p0, .int p1, .int p2, .int p3, .int p4, .int p5] : List Value).toArray s 0 0 A) (F0 m 318 ls []) := by
                                intro H locs ls hP hD hS hl
                                obtain rfl := Option.some.inj hF
                                exact J276 _ _ _ hP hD hS (lv_sub hl [0, 1, 2, 3, 4, 5, 6, 7, 8, 9, 10, 11, 12, 13, 14, 15] rfl)
                              clear hF
                              have hF := hy286
                              clear hy286
                              refine lv_if_ge (tgt := 271) hx hb dX9_guess_253 (by decide) (fun c287 => ?_) (fun c287 => ?_)
                              · rw [if_pos c287] at hF
                                refine lv_iload hx hb dX9_guess_271 (lv_at hl 0 rfl) ?_
                                refine lv_iconst (v := (1 : Int32)) hx hb dX9_guess_273 (by decide) ?_
                                obtain ⟨y288, hy288, hF⟩ := bnd_some hF
                                have J288 : ∀ (H : Heap) (locs : List Loc) (ls : Array Slot), va_P D classes (wld ct ad G y288) H → va_D A (wld ct ad G y288) → va_S A s.heap H locs → lv_has ls 16 [(15, .int x21), (14, .int y16), (13, .int y14), (12, .int y12), (11, .int y10.1), (10, .int y6.2), (9, .int y4.2), (8, .int y2.2), (7, .int y1.2), (0, .ref (ad a)), (1, .int p0), (2, .int p1), (3, .int p2), (4, .int p3), (5, .int p4), (6, .int p5)] → W p l e (headSpec wuX9_guess ({ frames := 1, cells := 0, slots := 0, locals := 34 })).room s m ([.ref (ad a), .int p0, .int p1, .int p2, .int p3, .int p4, .int p5] : List Value).toArray below meth c H locs 0 0 (MQ below (va_Qv (fun (_ : Unit) => True) (fun _ t => kE D ct ad G A y t) A) ([.ref (ad a), .int p0, .int p1, .int p2, .int p3, .int p4, .int p5] : List Value).toArray s 0 0 A) (F0 m 318 ls []) := by
                                  intro H locs ls hP hD hS hl
                                  obtain rfl := Option.some.inj hF
                                  exact J286 _ _ _ hP hD hS (lv_sub hl [0, 1, 2, 3, 4, 5, 6, 7, 8, 9, 10, 11, 12, 13, 14, 15] rfl)
                                clear hF
                                have hF := hy288
                                clear hy288
                                refine lv_icmp_ne (tgt := 307) hx hb dX9_guess_274 (by decide) (fun c289 => ?_) (fun c289 => ?_)
                                · rw [if_neg c289] at hF
                                  refine lv_aload_n hx hb dX9_guess_307 rfl (lv_at hl 9 rfl) ?_
                                  refine lv_iload_n hx hb dX9_guess_308 rfl (lv_at hl 11 rfl) ?_
                                  refine lv_iload hx hb dX9_guess_309 (lv_at hl 6 rfl) ?_
                                  refine lv_iload hx hb dX9_guess_311 (lv_at hl 5 rfl) ?_
                                  refine lv_iload hx hb dX9_guess_313 (lv_at hl 4 rfl) ?_
                                  obtain ⟨y290, hy290, hF⟩ := bnd_some hF
                                  have hf9 := wA_in hD hA9 hS
                                  refine va_callv (va_runV (As := [.int p1, .int y4.2, .int y6.2, .int y10.1]) (rest := []) ⟨hx, hb, hml, hown, hts⟩ (kX9_adoptMedian l D ct ad Z G y15.1 H.size a p1 y4.2 y6.2 y10.1 y290 hc hk hy290) (cwV 4 hts gX9_guess_X9_adoptMedian rfl rfl rfl (by decide +kernel) ⟨Nat.le_of_ble_eq_true rfl, Nat.le_of_ble_eq_true rfl⟩) ⟨fun a U g mk q => by obtain ⟨q0, q1, qP, qK, qD, qZ, qN⟩ := q; exact ⟨q0, q1, qP, va_K.moved (u := U) (U := U.calling g mk a) (Vm.Alike.refl U.vm) qK, qD, sF.moved (u := U) (U := U.calling g mk a) (Vm.Alike.refl U.vm) qZ, nF.same rfl qN⟩, va_recv hK hP (ci := 9) (q0 := a) rfl (wld_o ct ad G y15.1 hc hk (by decide)), fun U hU hW => ⟨rfl, by rw [hU], by rw [hU]; exact hP, va_K.moved hW.alike hK, hD.weaken (fun _ _ _ _ => trivial), by rw [hU]; exact ((hZ.kept hS.2.1).narrow hf9).moved hW.alike, hN.warm hW⟩⟩ rfl rfl hl.1 rfl (lv_room (Nat.le_of_ble_eq_true rfl)) dX9_guess_315 ⟨(Nat.zero_le _), (Nat.zero_le _)⟩) hS (fun q _ h => hf9 q h) hf9 (fun u t H locs ht hvm hw hB hz1 hk1 hS => ?_)
                                  obtain ⟨hP, hK9, hD9⟩ := hB
                                  rw [ht] at hP
                                  have hD := hD9.weaken (fun _ q _ h => hf9 q.1 h)
                                  obtain rfl := Option.some.inj hF
                                  exact J288 _ _ _ hP hD hS (lv_sub hl [0, 1, 2, 3, 4, 5, 6, 7, 8, 9, 10, 11, 12, 13, 14, 15] rfl)
                                · rw [if_pos c289] at hF
                                  refine lv_aload_n hx hb dX9_guess_277 rfl (lv_at hl 9 rfl) ?_
                                  refine lv_iload_n hx hb dX9_guess_278 rfl (lv_at hl 11 rfl) ?_
                                  refine lv_iload hx hb dX9_guess_279 (lv_at hl 3 rfl) ?_
                                  obtain ⟨y291, hy291, hF⟩ := bnd_some hF
                                  have J291 : ∀ (H : Heap) (locs : List Loc) (ls : Array Slot), va_P D classes (wld ct ad G y15.1) H → va_D A (wld ct ad G y15.1) → va_S A s.heap H locs → lv_has ls 16 [(15, .int x21), (14, .int y16), (13, .int y14), (12, .int y12), (11, .int y10.1), (10, .int y6.2), (9, .int y4.2), (8, .int y2.2), (7, .int y1.2), (0, .ref (ad a)), (1, .int p0), (2, .int p1), (3, .int p2), (4, .int p3), (5, .int p4), (6, .int p5)] → W p l e (headSpec wuX9_guess ({ frames := 1, cells := 0, slots := 0, locals := 34 })).room s m ([.ref (ad a), .int p0, .int p1, .int p2, .int p3, .int p4, .int p5] : List Value).toArray below meth c H locs 0 0 (MQ below (va_Qv (fun (_ : Unit) => True) (fun _ t => kE D ct ad G A y t) A) ([.ref (ad a), .int p0, .int p1, .int p2, .int p3, .int p4, .int p5] : List Value).toArray s 0 0 A) (F0 m 301 ls [.int y291, .int p1, .ref (ad a)]) := by
                                    intro H locs ls hP hD hS hl
                                    obtain ⟨y292, hy292, hF⟩ := bnd_some hF
                                    have hf9 := wA_in hD hA9 hS
                                    refine va_callv (va_runV (As := [.int p1, .int y291]) (rest := []) ⟨hx, hb, hml, hown, hts⟩ (kX9_adopt l D ct ad Z G y15.1 H.size a p1 y291 y292 hc hk hy292) (cwV 2 hts gX9_guess_X9_adopt rfl rfl rfl (by decide +kernel) ⟨Nat.le_of_ble_eq_true rfl, Nat.le_of_ble_eq_true rfl⟩) ⟨fun a U g mk q => by obtain ⟨q0, q1, qP, qK, qD, qZ, qN⟩ := q; exact ⟨q0, q1, qP, va_K.moved (u := U) (U := U.calling g mk a) (Vm.Alike.refl U.vm) qK, qD, sF.moved (u := U) (U := U.calling g mk a) (Vm.Alike.refl U.vm) qZ, nF.same rfl qN⟩, va_recv hK hP (ci := 9) (q0 := a) rfl (wld_o ct ad G y15.1 hc hk (by decide)), fun U hU hW => ⟨rfl, by rw [hU], by rw [hU]; exact hP, va_K.moved hW.alike hK, hD.weaken (fun _ _ _ _ => trivial), by rw [hU]; exact ((hZ.kept hS.2.1).narrow hf9).moved hW.alike, hN.warm hW⟩⟩ rfl rfl hl.1 rfl (lv_room (Nat.le_of_ble_eq_true rfl)) dX9_guess_301 ⟨(Nat.zero_le _), (Nat.zero_le _)⟩) hS (fun q _ h => hf9 q h) hf9 (fun u t H locs ht hvm hw hB hz1 hk1 hS => ?_)
                                    obtain ⟨hP, hK9, hD9⟩ := hB
                                    rw [ht] at hP
                                    have hD := hD9.weaken (fun _ q _ h => hf9 q.1 h)
                                    refine lv_goto (tgt := 318) hx hb dX9_guess_304 (by decide) ?_
                                    obtain rfl := Option.some.inj hF
                                    exact J288 _ _ _ hP hD hS (lv_sub hl [0, 1, 2, 3, 4, 5, 6, 7, 8, 9, 10, 11, 12, 13, 14, 15] rfl)
                                  clear hF
                                  have hF := hy291
                                  clear hy291
                                  refine lv_if_eq (tgt := 289) hx hb dX9_guess_281 (by decide) (fun c293 => ?_) (fun c293 => ?_)
                                  · rw [if_pos c293] at hF
                                    refine lv_iload hx hb dX9_guess_289 (lv_at hl 2 rfl) ?_
                                    obtain ⟨y294, hy294, hF⟩ := bnd_some hF
                                    have J294 : ∀ (H : Heap) (locs : List Loc) (ls : Array Slot), va_P D classes (wld ct ad G y15.1) H → va_D A (wld ct ad G y15.1) → va_S A s.heap H locs → lv_has ls 16 [(15, .int x21), (14, .int y16), (13, .int y14), (12, .int y12), (11, .int y10.1), (10, .int y6.2), (9, .int y4.2), (8, .int y2.2), (7, .int y1.2), (0, .ref (ad a)), (1, .int p0), (2, .int p1), (3, .int p2), (4, .int p3), (5, .int p4), (6, .int p5)] → W p l e (headSpec wuX9_guess ({ frames := 1, cells := 0, slots := 0, locals := 34 })).room s m ([.ref (ad a), .int p0, .int p1, .int p2, .int p3, .int p4, .int p5] : List Value).toArray below meth c H locs 0 0 (MQ below (va_Qv (fun (_ : Unit) => True) (fun _ t => kE D ct ad G A y t) A) ([.ref (ad a), .int p0, .int p1, .int p2, .int p3, .int p4, .int p5] : List Value).toArray s 0 0 A) (F0 m 301 ls [.int y294, .int p1, .ref (ad a)]) := by
                                      intro H locs ls hP hD hS hl
                                      obtain rfl := Option.some.inj hF
                                      exact J291 _ _ _ hP hD hS (lv_sub hl [0, 1, 2, 3, 4, 5, 6, 7, 8, 9, 10, 11, 12, 13, 14, 15] rfl)
                                    clear hF
                                    have hF := hy294
                                    clear hy294
                                    refine lv_if_eq (tgt := 299) hx hb dX9_guess_291 (by decide) (fun c295 => ?_) (fun c295 => ?_)
                                    · rw [if_pos c295] at hF
                                      refine lv_iload hx hb dX9_guess_299 (lv_at hl 4 rfl) ?_
                                      obtain rfl := Option.some.inj hF
                                      exact J294 _ _ _ hP hD hS (lv_sub hl [0, 1, 2, 3, 4, 5, 6, 7, 8, 9, 10, 11, 12, 13, 14, 15] rfl)
                                    · rw [if_neg c295] at hF
                                      refine lv_iload hx hb dX9_guess_294 (lv_at hl 5 rfl) ?_
                                      refine lv_goto (tgt := 301) hx hb dX9_guess_296 (by decide) ?_
                                      obtain rfl := Option.some.inj hF
                                      exact J294 _ _ _ hP hD hS (lv_sub hl [0, 1, 2, 3, 4, 5, 6, 7, 8, 9, 10, 11, 12, 13, 14, 15] rfl)
                                  · rw [if_neg c293] at hF
                                    refine lv_iload hx hb dX9_guess_284 (lv_at hl 6 rfl) ?_
                                    refine lv_goto (tgt := 301) hx hb dX9_guess_286 (by decide) ?_
                                    obtain rfl := Option.some.inj hF
                                    exact J291 _ _ _ hP hD hS (lv_sub hl [0, 1, 2, 3, 4, 5, 6, 7, 8, 9, 10, 11, 12, 13, 14, 15] rfl)
                              · rw [if_neg c287] at hF
                                refine lv_iload hx hb dX9_guess_256 (lv_at hl 6 rfl) ?_
                                obtain ⟨y296, hy296, hF⟩ := bnd_some hF
                                have J296 : ∀ (H : Heap) (locs : List Loc) (ls : Array Slot), va_P D classes (wld ct ad G y296) H → va_D A (wld ct ad G y296) → va_S A s.heap H locs → lv_has ls 16 [(15, .int x21), (14, .int y16), (13, .int y14), (12, .int y12), (11, .int y10.1), (10, .int y6.2), (9, .int y4.2), (8, .int y2.2), (7, .int y1.2), (0, .ref (ad a)), (1, .int p0), (2, .int p1), (3, .int p2), (4, .int p3), (5, .int p4), (6, .int p5)] → W p l e (headSpec wuX9_guess ({ frames := 1, cells := 0, slots := 0, locals := 34 })).room s m ([.ref (ad a), .int p0, .int p1, .int p2, .int p3, .int p4, .int p5] : List Value).toArray below meth c H locs 0 0 (MQ below (va_Qv (fun (_ : Unit) => True) (fun _ t => kE D ct ad G A y t) A) ([.ref (ad a), .int p0, .int p1, .int p2, .int p3, .int p4, .int p5] : List Value).toArray s 0 0 A) (F0 m 318 ls []) := by
                                  intro H locs ls hP hD hS hl
                                  obtain rfl := Option.some.inj hF
                                  exact J286 _ _ _ hP hD hS (lv_sub hl [0, 1, 2, 3, 4, 5, 6, 7, 8, 9, 10, 11, 12, 13, 14, 15] rfl)
                                clear hF
                                have hF := hy296
                                clear hy296
                                refine lv_if_lt (tgt := 271) hx hb dX9_guess_258 (by decide) (fun c297 => ?_) (fun c297 => ?_)
                                · rw [if_pos c297] at hF
                                  refine lv_iload hx hb dX9_guess_271 (lv_at hl 0 rfl) ?_
                                  refine lv_iconst (v := (1 : Int32)) hx hb dX9_guess_273 (by decide) ?_
                                  obtain ⟨y298, hy298, hF⟩ := bnd_some hF
                                  have J298 : ∀ (H : Heap) (locs : List Loc) (ls : Array Slot), va_P D classes (wld ct ad G y298) H → va_D A (wld ct ad G y298) → va_S A s.heap H locs → lv_has ls 16 [(15, .int x21), (14, .int y16), (13, .int y14), (12, .int y12), (11, .int y10.1), (10, .int y6.2), (9, .int y4.2), (8, .int y2.2), (7, .int y1.2), (0, .ref (ad a)), (1, .int p0), (2, .int p1), (3, .int p2), (4, .int p3), (5, .int p4), (6, .int p5)] → W p l e (headSpec wuX9_guess ({ frames := 1, cells := 0, slots := 0, locals := 34 })).room s m ([.ref (ad a), .int p0, .int p1, .int p2, .int p3, .int p4, .int p5] : List Value).toArray below meth c H locs 0 0 (MQ below (va_Qv (fun (_ : Unit) => True) (fun _ t => kE D ct ad G A y t) A) ([.ref (ad a), .int p0, .int p1, .int p2, .int p3, .int p4, .int p5] : List Value).toArray s 0 0 A) (F0 m 318 ls []) := by
                                    intro H locs ls hP hD hS hl
                                    obtain rfl := Option.some.inj hF
                                    exact J296 _ _ _ hP hD hS (lv_sub hl [0, 1, 2, 3, 4, 5, 6, 7, 8, 9, 10, 11, 12, 13, 14, 15] rfl)
                                  clear hF
                                  have hF := hy298
                                  clear hy298
                                  refine lv_icmp_ne (tgt := 307) hx hb dX9_guess_274 (by decide) (fun c299 => ?_) (fun c299 => ?_)
                                  · rw [if_neg c299] at hF
                                    refine lv_aload_n hx hb dX9_guess_307 rfl (lv_at hl 9 rfl) ?_
                                    refine lv_iload_n hx hb dX9_guess_308 rfl (lv_at hl 11 rfl) ?_
                                    refine lv_iload hx hb dX9_guess_309 (lv_at hl 6 rfl) ?_
                                    refine lv_iload hx hb dX9_guess_311 (lv_at hl 5 rfl) ?_
                                    refine lv_iload hx hb dX9_guess_313 (lv_at hl 4 rfl) ?_
                                    obtain ⟨y300, hy300, hF⟩ := bnd_some hF
                                    have hf9 := wA_in hD hA9 hS
                                    refine va_callv (va_runV (As := [.int p1, .int y4.2, .int y6.2, .int y10.1]) (rest := []) ⟨hx, hb, hml, hown, hts⟩ (kX9_adoptMedian l D ct ad Z G y15.1 H.size a p1 y4.2 y6.2 y10.1 y300 hc hk hy300) (cwV 4 hts gX9_guess_X9_adoptMedian rfl rfl rfl (by decide +kernel) ⟨Nat.le_of_ble_eq_true rfl, Nat.le_of_ble_eq_true rfl⟩) ⟨fun a U g mk q => by obtain ⟨q0, q1, qP, qK, qD, qZ, qN⟩ := q; exact ⟨q0, q1, qP, va_K.moved (u := U) (U := U.calling g mk a) (Vm.Alike.refl U.vm) qK, qD, sF.moved (u := U) (U := U.calling g mk a) (Vm.Alike.refl U.vm) qZ, nF.same rfl qN⟩, va_recv hK hP (ci := 9) (q0 := a) rfl (wld_o ct ad G y15.1 hc hk (by decide)), fun U hU hW => ⟨rfl, by rw [hU], by rw [hU]; exact hP, va_K.moved hW.alike hK, hD.weaken (fun _ _ _ _ => trivial), by rw [hU]; exact ((hZ.kept hS.2.1).narrow hf9).moved hW.alike, hN.warm hW⟩⟩ rfl rfl hl.1 rfl (lv_room (Nat.le_of_ble_eq_true rfl)) dX9_guess_315 ⟨(Nat.zero_le _), (Nat.zero_le _)⟩) hS (fun q _ h => hf9 q h) hf9 (fun u t H locs ht hvm hw hB hz1 hk1 hS => ?_)
                                    obtain ⟨hP, hK9, hD9⟩ := hB
                                    rw [ht] at hP
                                    have hD := hD9.weaken (fun _ q _ h => hf9 q.1 h)
                                    obtain rfl := Option.some.inj hF
                                    exact J298 _ _ _ hP hD hS (lv_sub hl [0, 1, 2, 3, 4, 5, 6, 7, 8, 9, 10, 11, 12, 13, 14, 15] rfl)
                                  · rw [if_pos c299] at hF
                                    refine lv_aload_n hx hb dX9_guess_277 rfl (lv_at hl 9 rfl) ?_
                                    refine lv_iload_n hx hb dX9_guess_278 rfl (lv_at hl 11 rfl) ?_
                                    refine lv_iload hx hb dX9_guess_279 (lv_at hl 3 rfl) ?_
                                    obtain ⟨y301, hy301, hF⟩ := bnd_some hF
                                    have J301 : ∀ (H : Heap) (locs : List Loc) (ls : Array Slot), va_P D classes (wld ct ad G y15.1) H → va_D A (wld ct ad G y15.1) → va_S A s.heap H locs → lv_has ls 16 [(15, .int x21), (14, .int y16), (13, .int y14), (12, .int y12), (11, .int y10.1), (10, .int y6.2), (9, .int y4.2), (8, .int y2.2), (7, .int y1.2), (0, .ref (ad a)), (1, .int p0), (2, .int p1), (3, .int p2), (4, .int p3), (5, .int p4), (6, .int p5)] → W p l e (headSpec wuX9_guess ({ frames := 1, cells := 0, slots := 0, locals := 34 })).room s m ([.ref (ad a), .int p0, .int p1, .int p2, .int p3, .int p4, .int p5] : List Value).toArray below meth c H locs 0 0 (MQ below (va_Qv (fun (_ : Unit) => True) (fun _ t => kE D ct ad G A y t) A) ([.ref (ad a), .int p0, .int p1, .int p2, .int p3, .int p4, .int p5] : List Value).toArray s 0 0 A) (F0 m 301 ls [.int y301, .int p1, .ref (ad a)]) := by
                                      intro H locs ls hP hD hS hl
                                      obtain ⟨y302, hy302, hF⟩ := bnd_some hF
                                      have hf9 := wA_in hD hA9 hS
                                      refine va_callv (va_runV (As := [.int p1, .int y301]) (rest := []) ⟨hx, hb, hml, hown, hts⟩ (kX9_adopt l D ct ad Z G y15.1 H.size a p1 y301 y302 hc hk hy302) (cwV 2 hts gX9_guess_X9_adopt rfl rfl rfl (by decide +kernel) ⟨Nat.le_of_ble_eq_true rfl, Nat.le_of_ble_eq_true rfl⟩) ⟨fun a U g mk q => by obtain ⟨q0, q1, qP, qK, qD, qZ, qN⟩ := q; exact ⟨q0, q1, qP, va_K.moved (u := U) (U := U.calling g mk a) (Vm.Alike.refl U.vm) qK, qD, sF.moved (u := U) (U := U.calling g mk a) (Vm.Alike.refl U.vm) qZ, nF.same rfl qN⟩, va_recv hK hP (ci := 9) (q0 := a) rfl (wld_o ct ad G y15.1 hc hk (by decide)), fun U hU hW => ⟨rfl, by rw [hU], by rw [hU]; exact hP, va_K.moved hW.alike hK, hD.weaken (fun _ _ _ _ => trivial), by rw [hU]; exact ((hZ.kept hS.2.1).narrow hf9).moved hW.alike, hN.warm hW⟩⟩ rfl rfl hl.1 rfl (lv_room (Nat.le_of_ble_eq_true rfl)) dX9_guess_301 ⟨(Nat.zero_le _), (Nat.zero_le _)⟩) hS (fun q _ h => hf9 q h) hf9 (fun u t H locs ht hvm hw hB hz1 hk1 hS => ?_)
                                      obtain ⟨hP, hK9, hD9⟩ := hB
                                      rw [ht] at hP
                                      have hD := hD9.weaken (fun _ q _ h => hf9 q.1 h)
                                      refine lv_goto (tgt := 318) hx hb dX9_guess_304 (by decide) ?_
                                      obtain rfl := Option.some.inj hF
                                      exact J298 _ _ _ hP hD hS (lv_sub hl [0, 1, 2, 3, 4, 5, 6, 7, 8, 9, 10, 11, 12, 13, 14, 15] rfl)
                                    clear hF
                                    have hF := hy301
                                    clear hy301
                                    refine lv_if_eq (tgt := 289) hx hb dX9_guess_281 (by decide) (fun c303 => ?_) (fun c303 => ?_)
                                    · rw [if_pos c303] at hF
                                      refine lv_iload hx hb dX9_guess_289 (lv_at hl 2 rfl) ?_
                                      obtain ⟨y304, hy304, hF⟩ := bnd_some hF
                                      have J304 : ∀ (H : Heap) (locs : List Loc) (ls : Array Slot), va_P D classes (wld ct ad G y15.1) H → va_D A (wld ct ad G y15.1) → va_S A s.heap H locs → lv_has ls 16 [(15, .int x21), (14, .int y16), (13, .int y14), (12, .int y12), (11, .int y10.1), (10, .int y6.2), (9, .int y4.2), (8, .int y2.2), (7, .int y1.2), (0, .ref (ad a)), (1, .int p0), (2, .int p1), (3, .int p2), (4, .int p3), (5, .int p4), (6, .int p5)] → W p l e (headSpec wuX9_guess ({ frames := 1, cells := 0, slots := 0, locals := 34 })).room s m ([.ref (ad a), .int p0, .int p1, .int p2, .int p3, .int p4, .int p5] : List Value).toArray below meth c H locs 0 0 (MQ below (va_Qv (fun (_ : Unit) => True) (fun _ t => kE D ct ad G A y t) A) ([.ref (ad a), .int p0, .int p1, .int p2, .int p3, .int p4, .int p5] : List Value).toArray s 0 0 A) (F0 m 301 ls [.int y304, .int p1, .ref (ad a)]) := by
                                        intro H locs ls hP hD hS hl
                                        obtain rfl := Option.some.inj hF
                                        exact J301 _ _ _ hP hD hS (lv_sub hl [0, 1, 2, 3, 4, 5, 6, 7, 8, 9, 10, 11, 12, 13, 14, 15] rfl)
                                      clear hF
                                      have hF := hy304
                                      clear hy304
                                      refine lv_if_eq (tgt := 299) hx hb dX9_guess_291 (by decide) (fun c305 => ?_) (fun c305 => ?_)
                                      · rw [if_pos c305] at hF
                                        refine lv_iload hx hb dX9_guess_299 (lv_at hl 4 rfl) ?_
                                        obtain rfl := Option.some.inj hF
                                        exact J304 _ _ _ hP hD hS (lv_sub hl [0, 1, 2, 3, 4, 5, 6, 7, 8, 9, 10, 11, 12, 13, 14, 15] rfl)
                                      · rw [if_neg c305] at hF
                                        refine lv_iload hx hb dX9_guess_294 (lv_at hl 5 rfl) ?_
                                        refine lv_goto (tgt := 301) hx hb dX9_guess_296 (by decide) ?_
                                        obtain rfl := Option.some.inj hF
                                        exact J304 _ _ _ hP hD hS (lv_sub hl [0, 1, 2, 3, 4, 5, 6, 7, 8, 9, 10, 11, 12, 13, 14, 15] rfl)
                                    · rw [if_neg c303] at hF
                                      refine lv_iload hx hb dX9_guess_284 (lv_at hl 6 rfl) ?_
                                      refine lv_goto (tgt := 301) hx hb dX9_guess_286 (by decide) ?_
                                      obtain rfl := Option.some.inj hF
                                      exact J301 _ _ _ hP hD hS (lv_sub hl [0, 1, 2, 3, 4, 5, 6, 7, 8, 9, 10, 11, 12, 13, 14, 15] rfl)
                                · rw [if_neg c297] at hF
                                  refine lv_aload_n hx hb dX9_guess_261 rfl (lv_at hl 9 rfl) ?_
                                  refine lv_iload_n hx hb dX9_guess_262 rfl (lv_at hl 11 rfl) ?_
                                  refine lv_iload hx hb dX9_guess_263 (lv_at hl 6 rfl) ?_
                                  obtain ⟨y306, hy306, hF⟩ := bnd_some hF
                                  have hf9 := wA_in hD hA9 hS
                                  refine va_callv (va_runV (As := [.int p1, .int y4.2]) (rest := []) ⟨hx, hb, hml, hown, hts⟩ (kX9_adopt l D ct ad Z G y15.1 H.size a p1 y4.2 y306 hc hk hy306) (cwV 2 hts gX9_guess_X9_adopt rfl rfl rfl (by decide +kernel) ⟨Nat.le_of_ble_eq_true rfl, Nat.le_of_ble_eq_true rfl⟩) ⟨fun a U g mk q => by obtain ⟨q0, q1, qP, qK, qD, qZ, qN⟩ := q; exact ⟨q0, q1, qP, va_K.moved (u := U) (U := U.calling g mk a) (Vm.Alike.refl U.vm) qK, qD, sF.moved (u := U) (U := U.calling g mk a) (Vm.Alike.refl U.vm) qZ, nF.same rfl qN⟩, va_recv hK hP (ci := 9) (q0 := a) rfl (wld_o ct ad G y15.1 hc hk (by decide)), fun U hU hW => ⟨rfl, by rw [hU], by rw [hU]; exact hP, va_K.moved hW.alike hK, hD.weaken (fun _ _ _ _ => trivial), by rw [hU]; exact ((hZ.kept hS.2.1).narrow hf9).moved hW.alike, hN.warm hW⟩⟩ rfl rfl hl.1 rfl (lv_room (Nat.le_of_ble_eq_true rfl)) dX9_guess_265 ⟨(Nat.zero_le _), (Nat.zero_le _)⟩) hS (fun q _ h => hf9 q h) hf9 (fun u t H locs ht hvm hw hB hz1 hk1 hS => ?_)
                                  obtain ⟨hP, hK9, hD9⟩ := hB
                                  rw [ht] at hP
                                  have hD := hD9.weaken (fun _ q _ h => hf9 q.1 h)
                                  refine lv_goto (tgt := 318) hx hb dX9_guess_268 (by decide) ?_
                                  obtain rfl := Option.some.inj hF
                                  exact J296 _ _ _ hP hD hS (lv_sub hl [0, 1, 2, 3, 4, 5, 6, 7, 8, 9, 10, 11, 12, 13, 14, 15] rfl)
                          · rw [if_neg c275] at hF
                            refine lv_aload_n hx hb dX9_guess_236 rfl (lv_at hl 9 rfl) ?_
                            refine lv_iload_n hx hb dX9_guess_237 rfl (lv_at hl 11 rfl) ?_
                            refine lv_iload hx hb dX9_guess_238 (lv_at hl 4 rfl) ?_
                            obtain ⟨y307, hy307, hF⟩ := bnd_some hF
                            have hf9 := wA_in hD hA9 hS
                            refine va_callv (va_runV (As := [.int p1, .int y10.1]) (rest := []) ⟨hx, hb, hml, hown, hts⟩ (kX9_adopt l D ct ad Z G y15.1 H.size a p1 y10.1 y307 hc hk hy307) (cwV 2 hts gX9_guess_X9_adopt rfl rfl rfl (by decide +kernel) ⟨Nat.le_of_ble_eq_true rfl, Nat.le_of_ble_eq_true rfl⟩) ⟨fun a U g mk q => by obtain ⟨q0, q1, qP, qK, qD, qZ, qN⟩ := q; exact ⟨q0, q1, qP, va_K.moved (u := U) (U := U.calling g mk a) (Vm.Alike.refl U.vm) qK, qD, sF.moved (u := U) (U := U.calling g mk a) (Vm.Alike.refl U.vm) qZ, nF.same rfl qN⟩, va_recv hK hP (ci := 9) (q0 := a) rfl (wld_o ct ad G y15.1 hc hk (by decide)), fun U hU hW => ⟨rfl, by rw [hU], by rw [hU]; exact hP, va_K.moved hW.alike hK, hD.weaken (fun _ _ _ _ => trivial), by rw [hU]; exact ((hZ.kept hS.2.1).narrow hf9).moved hW.alike, hN.warm hW⟩⟩ rfl rfl hl.1 rfl (lv_room (Nat.le_of_ble_eq_true rfl)) dX9_guess_240 ⟨(Nat.zero_le _), (Nat.zero_le _)⟩) hS (fun q _ h => hf9 q h) hf9 (fun u t H locs ht hvm hw hB hz1 hk1 hS => ?_)
                            obtain ⟨hP, hK9, hD9⟩ := hB
                            rw [ht] at hP
                            have hD := hD9.weaken (fun _ q _ h => hf9 q.1 h)
                            refine lv_goto (tgt := 318) hx hb dX9_guess_243 (by decide) ?_
                            obtain rfl := Option.some.inj hF
                            exact J274 _ _ _ hP hD hS (lv_sub hl [0, 1, 2, 3, 4, 5, 6, 7, 8, 9, 10, 11, 12, 13, 14, 15] rfl)
                      · rw [if_neg c240] at hF
                        refine lv_aload_n hx hb dX9_guess_215 rfl (lv_at hl 9 rfl) ?_
                        refine lv_iload_n hx hb dX9_guess_216 rfl (lv_at hl 11 rfl) ?_
                        refine lv_iload hx hb dX9_guess_217 (lv_at hl 6 rfl) ?_
                        obtain ⟨y308, hy308, hF⟩ := bnd_some hF
                        have hf9 := wA_in hD hA9 hS
                        refine va_callv (va_runV (As := [.int p1, .int y4.2]) (rest := []) ⟨hx, hb, hml, hown, hts⟩ (kX9_adopt l D ct ad Z G y15.1 H.size a p1 y4.2 y308 hc hk hy308) (cwV 2 hts gX9_guess_X9_adopt rfl rfl rfl (by decide +kernel) ⟨Nat.le_of_ble_eq_true rfl, Nat.le_of_ble_eq_true rfl⟩) ⟨fun a U g mk q => by obtain ⟨q0, q1, qP, qK, qD, qZ, qN⟩ := q; exact ⟨q0, q1, qP, va_K.moved (u := U) (U := U.calling g mk a) (Vm.Alike.refl U.vm) qK, qD, sF.moved (u := U) (U := U.calling g mk a) (Vm.Alike.refl U.vm) qZ, nF.same rfl qN⟩, va_recv hK hP (ci := 9) (q0 := a) rfl (wld_o ct ad G y15.1 hc hk (by decide)), fun U hU hW => ⟨rfl, by rw [hU], by rw [hU]; exact hP, va_K.moved hW.alike hK, hD.weaken (fun _ _ _ _ => trivial), by rw [hU]; exact ((hZ.kept hS.2.1).narrow hf9).moved hW.alike, hN.warm hW⟩⟩ rfl rfl hl.1 rfl (lv_room (Nat.le_of_ble_eq_true rfl)) dX9_guess_219 ⟨(Nat.zero_le _), (Nat.zero_le _)⟩) hS (fun q _ h => hf9 q h) hf9 (fun u t H locs ht hvm hw hB hz1 hk1 hS => ?_)
                        obtain ⟨hP, hK9, hD9⟩ := hB
                        rw [ht] at hP
                        have hD := hD9.weaken (fun _ q _ h => hf9 q.1 h)
                        refine lv_goto (tgt := 318) hx hb dX9_guess_222 (by decide) ?_
                        obtain rfl := Option.some.inj hF
                        exact J239 _ _ _ hP hD hS (lv_sub hl [0, 1, 2, 3, 4, 5, 6, 7, 8, 9, 10, 11, 12, 13, 14, 15] rfl)
                    · rw [if_neg c238] at hF
                      refine lv_iload hx hb dX9_guess_204 (lv_at hl 15 rfl) ?_
                      refine lv_iconst (v := (3 : Int32)) hx hb dX9_guess_206 (by decide) ?_
                      obtain ⟨y309, hy309, hF⟩ := bnd_some hF
                      have J309 : ∀ (H : Heap) (locs : List Loc) (ls : Array Slot), va_P D classes (wld ct ad G y309) H → va_D A (wld ct ad G y309) → va_S A s.heap H locs → lv_has ls 16 [(15, .int x21), (14, .int y16), (13, .int y14), (12, .int y12), (11, .int y10.1), (10, .int y6.2), (9, .int y4.2), (8, .int y2.2), (7, .int y1.2), (0, .ref (ad a)), (1, .int p0), (2, .int p1), (3, .int p2), (4, .int p3), (5, .int p4), (6, .int p5)] → W p l e (headSpec wuX9_guess ({ frames := 1, cells := 0, slots := 0, locals := 34 })).room s m ([.ref (ad a), .int p0, .int p1, .int p2, .int p3, .int p4, .int p5] : List Value).toArray below meth c H locs 0 0 (MQ below (va_Qv (fun (_ : Unit) => True) (fun _ t => kE D ct ad G A y t) A) ([.ref (ad a), .int p0, .int p1, .int p2, .int p3, .int p4, .int p5] : List Value).toArray s 0 0 A) (F0 m 318 ls []) := by
                        intro H locs ls hP hD hS hl
                        obtain rfl := Option.some.inj hF
                        exact J237 _ _ _ hP hD hS (lv_sub hl [0, 1, 2, 3, 4, 5, 6, 7, 8, 9, 10, 11, 12, 13, 14, 15] rfl)
                      clear hF
                      have hF := hy309
                      clear hy309
                      refine lv_icmp_ne (tgt := 225) hx hb dX9_guess_207 (by decide) (fun c310 => ?_) (fun c310 => ?_)
                      · rw [if_neg c310] at hF
                        refine lv_iload hx hb dX9_guess_225 (lv_at hl 15 rfl) ?_
                        refine lv_iconst (v := (4 : Int32)) hx hb dX9_guess_227 (by decide) ?_
                        obtain ⟨y311, hy311, hF⟩ := bnd_some hF
                        have J311 : ∀ (H : Heap) (locs : List Loc) (ls : Array Slot), va_P D classes (wld ct ad G y311) H → va_D A (wld ct ad G y311) → va_S A s.heap H locs → lv_has ls 16 [(15, .int x21), (14, .int y16), (13, .int y14), (12, .int y12), (11, .int y10.1), (10, .int y6.2), (9, .int y4.2), (8, .int y2.2), (7, .int y1.2), (0, .ref (ad a)), (1, .int p0), (2, .int p1), (3, .int p2), (4, .int p3), (5, .int p4), (6, .int p5)] → W p l e (headSpec wuX9_guess ({ frames := 1, cells := 0, slots := 0, locals := 34 })).room s m ([.ref (ad a), .int p0, .int p1, .int p2, .int p3, .int p4, .int p5] : List Value).toArray below meth c H locs 0 0 (MQ below (va_Qv (fun (_ : Unit) => True) (fun _ t => kE D ct ad G A y t) A) ([.ref (ad a), .int p0, .int p1, .int p2, .int p3, .int p4, .int p5] : List Value).toArray s 0 0 A) (F0 m 318 ls []) := by
                          intro H locs ls hP hD hS hl
                          obtain rfl := Option.some.inj hF
                          exact J309 _ _ _ hP hD hS (lv_sub hl [0, 1, 2, 3, 4, 5, 6, 7, 8, 9, 10, 11, 12, 13, 14, 15] rfl)
                        clear hF
                        have hF := hy311
                        clear hy311
                        refine lv_icmp_ne (tgt := 246) hx hb dX9_guess_228 (by decide) (fun c312 => ?_) (fun c312 => ?_)
                        · rw [if_neg c312] at hF
                          refine lv_iload hx hb dX9_guess_246 (lv_at hl 5 rfl) ?_
                          obtain ⟨y313, hy313, hF⟩ := bnd_some hF
                          have J313 : ∀ (H : Heap) (locs : List Loc) (ls : Array Slot), va_P D classes (wld ct ad G y313) H → va_D A (wld ct ad G y313) → va_S A s.heap H locs → lv_has ls 16 [(15, .int x21), (14, .int y16), (13, .int y14), (12, .int y12), (11, .int y10.1), (10, .int y6.2), (9, .int y4.2), (8, .int y2.2), (7, .int y1.2), (0, .ref (ad a)), (1, .int p0), (2, .int p1), (3, .int p2), (4, .int p3), (5, .int p4), (6, .int p5)] → W p l e (headSpec wuX9_guess ({ frames := 1, cells := 0, slots := 0, locals := 34 })).room s m ([.ref (ad a), .int p0, .int p1, .int p2, .int p3, .int p4, .int p5] : List Value).toArray below meth c H locs 0 0 (MQ below (va_Qv (fun (_ : Unit) => True) (fun _ t => kE D ct ad G A y t) A) ([.ref (ad a), .int p0, .int p1, .int p2, .int p3, .int p4, .int p5] : List Value).toArray s 0 0 A) (F0 m 318 ls []) := by
                            intro H locs ls hP hD hS hl
                            obtain rfl := Option.some.inj hF
                            exact J311 _ _ _ hP hD hS (lv_sub hl [0, 1, 2, 3, 4, 5, 6, 7, 8, 9, 10, 11, 12, 13, 14, 15] rfl)
                          clear hF
                          have hF := hy313
                          clear hy313
                          refine lv_if_ge (tgt := 271) hx hb dX9_guess_248 (by decide) (fun c314 => ?_) (fun c314 => ?_)
                          · rw [if_pos c314] at hF
                            refine lv_iload hx hb dX9_guess_271 (lv_at hl 0 rfl) ?_
                            refine lv_iconst (v := (1 : Int32)) hx hb dX9_guess_273 (by decide) ?_
                            obtain ⟨y315, hy315, hF⟩ := bnd_some hF
                            have J315 : ∀ (H : Heap) (locs : List Loc) (ls : Array Slot), va_P D classes (wld ct ad G y315) H → va_D A (wld ct ad G y315) → va_S A s.heap H locs → lv_has ls 16 [(15, .int x21), (14, .int y16), (13, .int y14), (12, .int y12), (11, .int y10.1), (10, .int y6.2), (9, .int y4.2), (8, .int y2.2), (7, .int y1.2), (0, .ref (ad a)), (1, .int p0), (2, .int p1), (3, .int p2), (4, .int p3), (5, .int p4), (6, .int p5)] → W p l e (headSpec wuX9_guess ({ frames := 1, cells := 0, slots := 0, locals := 34 })).room s m ([.ref (ad a), .int p0, .int p1, .int p2, .int p3, .int p4, .int p5] : List Value).toArray below meth c H locs 0 0 (MQ below (va_Qv (fun (_ : Unit) => True) (fun _ t => kE D ct ad G A y t) A) ([.ref (ad a), .int p0, .int p1, .int p2, .int p3, .int p4, .int p5] : List Value).toArray s 0 0 A) (F0 m 318 ls []) := by
                              intro H locs ls hP hD hS hl
                              obtain rfl := Option.some.inj hF
                              exact J313 _ _ _ hP hD hS (lv_sub hl [0, 1, 2, 3, 4, 5, 6, 7, 8, 9, 10, 11, 12, 13, 14, 15] rfl)
                            clear hF
                            have hF := hy315
                            clear hy315
                            refine lv_icmp_ne (tgt := 307) hx hb dX9_guess_274 (by decide) (fun c316 => ?_) (fun c316 => ?_)
                            · rw [if_neg c316] at hF
                              refine lv_aload_n hx hb dX9_guess_307 rfl (lv_at hl 9 rfl) ?_
                              refine lv_iload_n hx hb dX9_guess_308 rfl (lv_at hl 11 rfl) ?_
                              refine lv_iload hx hb dX9_guess_309 (lv_at hl 6 rfl) ?_
                              refine lv_iload hx hb dX9_guess_311 (lv_at hl 5 rfl) ?_
                              refine lv_iload hx hb dX9_guess_313 (lv_at hl 4 rfl) ?_
                              obtain ⟨y317, hy317, hF⟩ := bnd_some hF
                              have hf9 := wA_in hD hA9 hS
                              refine va_callv (va_runV (As := [.int p1, .int y4.2, .int y6.2, .int y10.1]) (rest := []) ⟨hx, hb, hml, hown, hts⟩ (kX9_adoptMedian l D ct ad Z G y15.1 H.size a p1 y4.2 y6.2 y10.1 y317 hc hk hy317) (cwV 4 hts gX9_guess_X9_adoptMedian rfl rfl rfl (by decide +kernel) ⟨Nat.le_of_ble_eq_true rfl, Nat.le_of_ble_eq_true rfl⟩) ⟨fun a U g mk q => by obtain ⟨q0, q1, qP, qK, qD, qZ, qN⟩ := q; exact ⟨q0, q1, qP, va_K.moved (u := U) (U := U.calling g mk a) (Vm.Alike.refl U.vm) qK, qD, sF.moved (u := U) (U := U.calling g mk a) (Vm.Alike.refl U.vm) qZ, nF.same rfl qN⟩, va_recv hK hP (ci := 9) (q0 := a) rfl (wld_o ct ad G y15.1 hc hk (by decide)), fun U hU hW => ⟨rfl, by rw [hU], by rw [hU]; exact hP, va_K.moved hW.alike hK, hD.weaken (fun _ _ _ _ => trivial), by rw [hU]; exact ((hZ.kept hS.2.1).narrow hf9).moved hW.alike, hN.warm hW⟩⟩ rfl rfl hl.1 rfl (lv_room (Nat.le_of_ble_eq_true rfl)) dX9_guess_315 ⟨(Nat.zero_le _), (Nat.zero_le _)⟩) hS (fun q _ h => hf9 q h) hf9 (fun u t H locs ht hvm hw hB hz1 hk1 hS => ?_)
                              obtain ⟨hP, hK9, hD9⟩ := hB
                              rw [ht] at hP
                              have hD := hD9.weaken (fun _ q _ h => hf9 q.1 h)
                              obtain rfl := Option.some.inj hF
                              exact J315 _ _ _ hP hD hS (lv_sub hl [0, 1, 2, 3, 4, 5, 6, 7, 8, 9, 10, 11, 12, 13, 14, 15] rfl)
                            · rw [if_pos c316] at hF
                              refine lv_aload_n hx hb dX9_guess_277 rfl (lv_at hl 9 rfl) ?_
                              refine lv_iload_n hx hb dX9_guess_278 rfl (lv_at hl 11 rfl) ?_
                              refine lv_iload hx hb dX9_guess_279 (lv_at hl 3 rfl) ?_
                              obtain ⟨y318, hy318, hF⟩ := bnd_some hF
                              have J318 : ∀ (H : Heap) (locs : List Loc) (ls : Array Slot), va_P D classes (wld ct ad G y15.1) H → va_D A (wld ct ad G y15.1) → va_S A s.heap H locs → lv_has ls 16 [(15, .int x21), (14, .int y16), (13, .int y14), (12, .int y12), (11, .int y10.1), (10, .int y6.2), (9, .int y4.2), (8, .int y2.2), (7, .int y1.2), (0, .ref (ad a)), (1, .int p0), (2, .int p1), (3, .int p2), (4, .int p3), (5, .int p4), (6, .int p5)] → W p l e (headSpec wuX9_guess ({ frames := 1, cells := 0, slots := 0, locals := 34 })).room s m ([.ref (ad a), .int p0, .int p1, .int p2, .int p3, .int p4, .int p5] : List Value).toArray below meth c H locs 0 0 (MQ below (va_Qv (fun (_ : Unit) => True) (fun _ t => kE D ct ad G A y t) A) ([.ref (ad a), .int p0, .int p1, .int p2, .int p3, .int p4, .int p5] : List Value).toArray s 0 0 A) (F0 m 301 ls [.int y318, .int p1, .ref (ad a)]) := by
                                intro H locs ls hP hD hS hl
                                obtain ⟨y319, hy319, hF⟩ := bnd_some hF
                                have hf9 := wA_in hD hA9 hS
                                refine va_callv (va_runV (As := [.int p1, .int y318]) (rest := []) ⟨hx, hb, hml, hown, hts⟩ (kX9_adopt l D ct ad Z G y15.1 H.size a p1 y318 y319 hc hk hy319) (cwV 2 hts gX9_guess_X9_adopt rfl rfl rfl (by decide +kernel) ⟨Nat.le_of_ble_eq_true rfl, Nat.le_of_ble_eq_true rfl⟩) ⟨fun a U g mk q => by obtain ⟨q0, q1, qP, qK, qD, qZ, qN⟩ := q; exact ⟨q0, q1, qP, va_K.moved (u := U) (U := U.calling g mk a) (Vm.Alike.refl U.vm) qK, qD, sF.moved (u := U) (U := U.calling g mk a) (Vm.Alike.refl U.vm) qZ, nF.same rfl qN⟩, va_recv hK hP (ci := 9) (q0 := a) rfl (wld_o ct ad G y15.1 hc hk (by decide)), fun U hU hW => ⟨rfl, by rw [hU], by rw [hU]; exact hP, va_K.moved hW.alike hK, hD.weaken (fun _ _ _ _ => trivial), by rw [hU]; exact ((hZ.kept hS.2.1).narrow hf9).moved hW.alike, hN.warm hW⟩⟩ rfl rfl hl.1 rfl (lv_room (Nat.le_of_ble_eq_true rfl)) dX9_guess_301 ⟨(Nat.zero_le _), (Nat.zero_le _)⟩) hS (fun q _ h => hf9 q h) hf9 (fun u t H locs ht hvm hw hB hz1 hk1 hS => ?_)
                                obtain ⟨hP, hK9, hD9⟩ := hB
                                rw [ht] at hP
                                have hD := hD9.weaken (fun _ q _ h => hf9 q.1 h)
                                refine lv_goto (tgt := 318) hx hb dX9_guess_304 (by decide) ?_
                                obtain rfl := Option.some.inj hF
                                exact J315 _ _ _ hP hD hS (lv_sub hl [0, 1, 2, 3, 4, 5, 6, 7, 8, 9, 10, 11, 12, 13, 14, 15] rfl)
                              clear hF
                              have hF := hy318
                              clear hy318
                              refine lv_if_eq (tgt := 289) hx hb dX9_guess_281 (by decide) (fun c320 => ?_) (fun c320 => ?_)
                              · rw [if_pos c320] at hF
                                refine lv_iload hx hb dX9_guess_289 (lv_at hl 2 rfl) ?_
                                obtain ⟨y321, hy321, hF⟩ := bnd_some hF
                                have J321 : ∀ (H : Heap) (locs : List Loc) (ls : Array Slot), va_P D classes (wld ct ad G y15.1) H → va_D A (wld ct ad G y15.1) → va_S A s.heap H locs → lv_has ls 16 [(15, .int x21), (14, .int y16), (13, .int y14), (12, .int y12), (11, .int y10.1), (10, .int y6.2), (9, .int y4.2), (8, .int y2.2), (7, .int y1.2), (0, .ref (ad a)), (1, .int p0), (2, .int p1), (3, .int p2), (4, .int p3), (5, .int p4), (6, .int p5)] → W p l e (headSpec wuX9_guess ({ frames := 1, cells := 0, slots := 0, locals := 34 })).room s m ([.ref (ad a), .int p0, .int p1, .int p2, .int p3, .int p4, .int p5] : List Value).toArray below meth c H locs 0 0 (MQ below (va_Qv (fun (_ : Unit) => True) (fun _ t => kE D ct ad G A y t) A) ([.ref (ad a), .int p0, .int p1, .int p2, .int p3, .int p4, .int p5] : List Value).toArray s 0 0 A) (F0 m 301 ls [.int y321, .int p1, .ref (ad a)]) := by
                                  intro H locs ls hP hD hS hl
                                  obtain rfl := Option.some.inj hF
                                  exact J318 _ _ _ hP hD hS (lv_sub hl [0, 1, 2, 3, 4, 5, 6, 7, 8, 9, 10, 11, 12, 13, 14, 15] rfl)
                                clear hF
                                have hF := hy321
                                clear hy321
                                refine lv_if_eq (tgt := 299) hx hb dX9_guess_291 (by decide) (fun c322 => ?_) (fun c322 => ?_)
                                · rw [if_pos c322] at hF
                                  refine lv_iload hx hb dX9_guess_299 (lv_at hl 4 rfl) ?_
                                  obtain rfl := Option.some.inj hF
                                  exact J321 _ _ _ hP hD hS (lv_sub hl [0, 1, 2, 3, 4, 5, 6, 7, 8, 9, 10, 11, 12, 13, 14, 15] rfl)
                                · rw [if_neg c322] at hF
                                  refine lv_iload hx hb dX9_guess_294 (lv_at hl 5 rfl) ?_
                                  refine lv_goto (tgt := 301) hx hb dX9_guess_296 (by decide) ?_
                                  obtain rfl := Option.some.inj hF
                                  exact J321 _ _ _ hP hD hS (lv_sub hl [0, 1, 2, 3, 4, 5, 6, 7, 8, 9, 10, 11, 12, 13, 14, 15] rfl)
                              · rw [if_neg c320] at hF
                                refine lv_iload hx hb dX9_guess_284 (lv_at hl 6 rfl) ?_
                                refine lv_goto (tgt := 301) hx hb dX9_guess_286 (by decide) ?_
                                obtain rfl := Option.some.inj hF
                                exact J318 _ _ _ hP hD hS (lv_sub hl [0, 1, 2, 3, 4, 5, 6, 7, 8, 9, 10, 11, 12, 13, 14, 15] rfl)
                          · rw [if_neg c314] at hF
                            refine lv_iload hx hb dX9_guess_251 (lv_at hl 4 rfl) ?_
                            obtain ⟨y323, hy323, hF⟩ := bnd_some hF
                            have J323 : ∀ (H : Heap) (locs : List Loc) (ls : Array Slot), va_P D classes (wld ct ad G y323) H → va_D A (wld ct ad G y323) → va_S A s.heap H locs → lv_has ls 16 [(15, .int x21), (14, .int y16), (13, .int y14), (12, .int y12), (11, .int y10.1), (10, .int y6.2), (9, .int y4.2), (8, .int y2.2), (7, .int y1.2), (0, .ref (ad a)), (1, .int p0), (2, .int p1), (3, .int p2), (4, .int p3), (5, .int p4), (6, .int p5)] → W p l e (headSpec wuX9_guess ({ frames := 1, cells := 0, slots := 0, locals := 34 })).room s m ([.ref (ad a), .int p0, .int p1, .int p2, .int p3, .int p4, .int p5] : List Value).toArray below meth c H locs 0 0 (MQ below (va_Qv (fun (_ : Unit) => True) (fun _ t => kE D ct ad G A y t) A) ([.ref (ad a), .int p0, .int p1, .int p2, .int p3, .int p4, .int p5] : List Value).toArray s 0 0 A) (F0 m 318 ls []) := by
                              intro H locs ls hP hD hS hl
                              obtain rfl := Option.some.inj hF
                              exact J313 _ _ _ hP hD hS (lv_sub hl [0, 1, 2, 3, 4, 5, 6, 7, 8, 9, 10, 11, 12, 13, 14, 15] rfl)
                            clear hF
                            have hF := hy323
                            clear hy323
                            refine lv_if_ge (tgt := 271) hx hb dX9_guess_253 (by decide) (fun c324 => ?_) (fun c324 => ?_)
                            · rw [if_pos c324] at hF
                              refine lv_iload hx hb dX9_guess_271 (lv_at hl 0 rfl) ?_
                              refine lv_iconst (v := (1 : Int32)) hx hb dX9_guess_273 (by decide) ?_
                              obtain ⟨y325, hy325, hF⟩ := bnd_some hF
                              have J325 : ∀ (H : Heap) (locs : List Loc) (ls : Array Slot), va_P D classes (wld ct ad G y325) H → va_D A (wld ct ad G y325) → va_S A s.heap H locs → lv_has ls 16 [(15, .int x21), (14, .int y16), (13, .int y14), (12, .int y12), (11, .int y10.1), (10, .int y6.2), (9, .int y4.2), (8, .int y2.2), (7, .int y1.2), (0, .ref (ad a)), (1, .int p0), (2, .int p1), (3, .int p2), (4, .int p3), (5, .int p4), (6, .int p5)] → W p l e (headSpec wuX9_guess ({ frames := 1, cells := 0, slots := 0, locals := 34 })).room s m ([.ref (ad a), .int p0, .int p1, .int p2, .int p3, .int p4, .int p5] : List Value).toArray below meth c H locs 0 0 (MQ below (va_Qv (fun (_ : Unit) => True) (fun _ t => kE D ct ad G A y t) A) ([.ref (ad a), .int p0, .int p1, .int p2, .int p3, .int p4, .int p5] : List Value).toArray s 0 0 A) (F0 m 318 ls []) := by
                                intro H locs ls hP hD hS hl
                                obtain rfl := Option.some.inj hF
                                exact J323 _ _ _ hP hD hS (lv_sub hl [0, 1, 2, 3, 4, 5, 6, 7, 8, 9, 10, 11, 12, 13, 14, 15] rfl)
                              clear hF
                              have hF := hy325
                              clear hy325
                              refine lv_icmp_ne (tgt := 307) hx hb dX9_guess_274 (by decide) (fun c326 => ?_) (fun c326 => ?_)
                              · rw [if_neg c326] at hF
                                refine lv_aload_n hx hb dX9_guess_307 rfl (lv_at hl 9 rfl) ?_
                                refine lv_iload_n hx hb dX9_guess_308 rfl (lv_at hl 11 rfl) ?_
                                refine lv_iload hx hb dX9_guess_309 (lv_at hl 6 rfl) ?_
                                refine lv_iload hx hb dX9_guess_311 (lv_at hl 5 rfl) ?_
                                refine lv_iload hx hb dX9_guess_313 (lv_at hl 4 rfl) ?_
                                obtain ⟨y327, hy327, hF⟩ := bnd_some hF
                                have hf9 := wA_in hD hA9 hS
                                refine va_callv (va_runV (As := [.int p1, .int y4.2, .int y6.2, .int y10.1]) (rest := []) ⟨hx, hb, hml, hown, hts⟩ (kX9_adoptMedian l D ct ad Z G y15.1 H.size a p1 y4.2 y6.2 y10.1 y327 hc hk hy327) (cwV 4 hts gX9_guess_X9_adoptMedian rfl rfl rfl (by decide +kernel) ⟨Nat.le_of_ble_eq_true rfl, Nat.le_of_ble_eq_true rfl⟩) ⟨fun a U g mk q => by obtain ⟨q0, q1, qP, qK, qD, qZ, qN⟩ := q; exact ⟨q0, q1, qP, va_K.moved (u := U) (U := U.calling g mk a) (Vm.Alike.refl U.vm) qK, qD, sF.moved (u := U) (U := U.calling g mk a) (Vm.Alike.refl U.vm) qZ, nF.same rfl qN⟩, va_recv hK hP (ci := 9) (q0 := a) rfl (wld_o ct ad G y15.1 hc hk (by decide)), fun U hU hW => ⟨rfl, by rw [hU], by rw [hU]; exact hP, va_K.moved hW.alike hK, hD.weaken (fun _ _ _ _ => trivial), by rw [hU]; exact ((hZ.kept hS.2.1).narrow hf9).moved hW.alike, hN.warm hW⟩⟩ rfl rfl hl.1 rfl (lv_room (Nat.le_of_ble_eq_true rfl)) dX9_guess_315 ⟨(Nat.zero_le _), (Nat.zero_le _)⟩) hS (fun q _ h => hf9 q h) hf9 (fun u t H locs ht hvm hw hB hz1 hk1 hS => ?_)
                                obtain ⟨hP, hK9, hD9⟩ := hB
                                rw [ht] at hP
                                have hD := hD9.weaken (fun _ q _ h => hf9 q.1 h)
                                obtain rfl := Option.some.inj hF
                                exact J325 _ _ _ hP hD hS (lv_sub hl [0, 1, 2, 3, 4, 5, 6, 7, 8, 9, 10, 11, 12, 13, 14, 15] rfl)
                              · rw [if_pos c326] at hF
                                refine lv_aload_n hx hb dX9_guess_277 rfl (lv_at hl 9 rfl) ?_
                                refine lv_iload_n hx hb dX9_guess_278 rfl (lv_at hl 11 rfl) ?_
                                refine lv_iload hx hb dX9_guess_279 (lv_at hl 3 rfl) ?_
                                obtain ⟨y328, hy328, hF⟩ := bnd_some hF
                                have J328 : ∀ (H : Heap) (locs : List Loc) (ls : Array Slot), va_P D classes (wld ct ad G y15.1) H → va_D A (wld ct ad G y15.1) → va_S A s.heap H locs → lv_has ls 16 [(15, .int x21), (14, .int y16), (13, .int y14), (12, .int y12), (11, .int y10.1), (10, .int y6.2), (9, .int y4.2), (8, .int y2.2), (7, .int y1.2), (0, .ref (ad a)), (1, .int p0), (2, .int p1), (3, .int p2), (4, .int p3), (5, .int p4), (6, .int p5)] → W p l e (headSpec wuX9_guess ({ frames := 1, cells := 0, slots := 0, locals := 34 })).room s m ([.ref (ad a), .int p0, .int p1, .int p2, .int p3, .int p4, .int p5] : List Value).toArray below meth c H locs 0 0 (MQ below (va_Qv (fun (_ : Unit) => True) (fun _ t => kE D ct ad G A y t) A) ([.ref (ad a), .int p0, .int p1, .int p2, .int p3, .int p4, .int p5] : List Value).toArray s 0 0 A) (F0 m 301 ls [.int y328, .int p1, .ref (ad a)]) := by
                                  intro H locs ls hP hD hS hl
                                  obtain ⟨y329, hy329, hF⟩ := bnd_some hF
                                  have hf9 := wA_in hD hA9 hS
                                  refine va_callv (va_runV (As := [.int p1, .int y328]) (rest := []) ⟨hx, hb, hml, hown, hts⟩ (kX9_adopt l D ct ad Z G y15.1 H.size a p1 y328 y329 hc hk hy329) (cwV 2 hts gX9_guess_X9_adopt rfl rfl rfl (by decide +kernel) ⟨Nat.le_of_ble_eq_true rfl, Nat.le_of_ble_eq_true rfl⟩) ⟨fun a U g mk q => by obtain ⟨q0, q1, qP, qK, qD, qZ, qN⟩ := q; exact ⟨q0, q1, qP, va_K.moved (u := U) (U := U.calling g mk a) (Vm.Alike.refl U.vm) qK, qD, sF.moved (u := U) (U := U.calling g mk a) (Vm.Alike.refl U.vm) qZ, nF.same rfl qN⟩, va_recv hK hP (ci := 9) (q0 := a) rfl (wld_o ct ad G y15.1 hc hk (by decide)), fun U hU hW => ⟨rfl, by rw [hU], by rw [hU]; exact hP, va_K.moved hW.alike hK, hD.weaken (fun _ _ _ _ => trivial), by rw [hU]; exact ((hZ.kept hS.2.1).narrow hf9).moved hW.alike, hN.warm hW⟩⟩ rfl rfl hl.1 rfl (lv_room (Nat.le_of_ble_eq_true rfl)) dX9_guess_301 ⟨(Nat.zero_le _), (Nat.zero_le _)⟩) hS (fun q _ h => hf9 q h) hf9 (fun u t H locs ht hvm hw hB hz1 hk1 hS => ?_)
                                  obtain ⟨hP, hK9, hD9⟩ := hB
                                  rw [ht] at hP
                                  have hD := hD9.weaken (fun _ q _ h => hf9 q.1 h)
                                  refine lv_goto (tgt := 318) hx hb dX9_guess_304 (by decide) ?_
                                  obtain rfl := Option.some.inj hF
                                  exact J325 _ _ _ hP hD hS (lv_sub hl [0, 1, 2, 3, 4, 5, 6, 7, 8, 9, 10, 11, 12, 13, 14, 15] rfl)
                                clear hF
                                have hF := hy328
                                clear hy328
                                refine lv_if_eq (tgt := 289) hx hb dX9_guess_281 (by decide) (fun c330 => ?_) (fun c330 => ?_)
                                · rw [if_pos c330] at hF
                                  refine lv_iload hx hb dX9_guess_289 (lv_at hl 2 rfl) ?_
                                  obtain ⟨y331, hy331, hF⟩ := bnd_some hF
                                  have J331 : ∀ (H : Heap) (locs : List Loc) (ls : Array Slot), va_P D classes (wld ct ad G y15.1) H → va_D A (wld ct ad G y15.1) → va_S A s.heap H locs → lv_has ls 16 [(15, .int x21), (14, .int y16), (13, .int y14), (12, .int y12), (11, .int y10.1), (10, .int y6.2), (9, .int y4.2), (8, .int y2.2), (7, .int y1.2), (0, .ref (ad a)), (1, .int p0), (2, .int p1), (3, .int p2), (4, .int p3), (5, .int p4), (6, .int p5)] → W p l e (headSpec wuX9_guess ({ frames := 1, cells := 0, slots := 0, locals := 34 })).room s m ([.ref (ad a), .int p0, .int p1, .int p2, .int p3, .int p4, .int p5] : List Value).toArray below meth c H locs 0 0 (MQ below (va_Qv (fun (_ : Unit) => True) (fun _ t => kE D ct ad G A y t) A) ([.ref (ad a), .int p0, .int p1, .int p2, .int p3, .int p4, .int p5] : List Value).toArray s 0 0 A) (F0 m 301 ls [.int y331, .int p1, .ref (ad a)]) := by
                                    intro H locs ls hP hD hS hl
                                    obtain rfl := Option.some.inj hF
                                    exact J328 _ _ _ hP hD hS (lv_sub hl [0, 1, 2, 3, 4, 5, 6, 7, 8, 9, 10, 11, 12, 13, 14, 15] rfl)
                                  clear hF
                                  have hF := hy331
                                  clear hy331
                                  refine lv_if_eq (tgt := 299) hx hb dX9_guess_291 (by decide) (fun c332 => ?_) (fun c332 => ?_)
                                  · rw [if_pos c332] at hF
                                    refine lv_iload hx hb dX9_guess_299 (lv_at hl 4 rfl) ?_
                                    obtain rfl := Option.some.inj hF
                                    exact J331 _ _ _ hP hD hS (lv_sub hl [0, 1, 2, 3, 4, 5, 6, 7, 8, 9, 10, 11, 12, 13, 14, 15] rfl)
                                  · rw [if_neg c332] at hF
                                    refine lv_iload hx hb dX9_guess_294 (lv_at hl 5 rfl) ?_
                                    refine lv_goto (tgt := 301) hx hb dX9_guess_296 (by decide) ?_
                                    obtain rfl := Option.some.inj hF
                                    exact J331 _ _ _ hP hD hS (lv_sub hl [0, 1, 2, 3, 4, 5, 6, 7, 8, 9, 10, 11, 12, 13, 14, 15] rfl)
                                · rw [if_neg c330] at hF
                                  refine lv_iload hx hb dX9_guess_284 (lv_at hl 6 rfl) ?_
                                  refine lv_goto (tgt := 301) hx hb dX9_guess_286 (by decide) ?_
                                  obtain rfl := Option.some.inj hF
                                  exact J328 _ _ _ hP hD hS (lv_sub hl [0, 1, 2, 3, 4, 5, 6, 7, 8, 9, 10, 11, 12, 13, 14, 15] rfl)
                            · rw [if_neg c324] at hF
                              refine lv_iload hx hb dX9_guess_256 (lv_at hl 6 rfl) ?_
                              obtain ⟨y333, hy333, hF⟩ := bnd_some hF
                              have J333 : ∀ (H : Heap) (locs : List Loc) (ls : Array Slot), va_P D classes (wld ct ad G y333) H → va_D A (wld ct ad G y333) → va_S A s.heap H locs → lv_has ls 16 [(15, .int x21), (14, .int y16), (13, .int y14), (12, .int y12), (11, .int y10.1), (10, .int y6.2), (9, .int y4.2), (8, .int y2.2), (7, .int y1.2), (0, .ref (ad a)), (1, .int p0), (2, .int p1), (3, .int p2), (4, .int p3), (5, .int p4), (6, .int p5)] → W p l e (headSpec wuX9_guess ({ frames := 1, cells := 0, slots := 0, locals := 34 })).room s m ([.ref (ad a), .int p0, .int p1, .int p2, .int p3, .int p4, .int p5] : List Value).toArray below meth c H locs 0 0 (MQ below (va_Qv (fun (_ : Unit) => True) (fun _ t => kE D ct ad G A y t) A) ([.ref (ad a), .int p0, .int p1, .int p2, .int p3, .int p4, .int p5] : List Value).toArray s 0 0 A) (F0 m 318 ls []) := by
                                intro H locs ls hP hD hS hl
                                obtain rfl := Option.some.inj hF
                                exact J323 _ _ _ hP hD hS (lv_sub hl [0, 1, 2, 3, 4, 5, 6, 7, 8, 9, 10, 11, 12, 13, 14, 15] rfl)
                              clear hF
                              have hF := hy333
                              clear hy333
                              refine lv_if_lt (tgt := 271) hx hb dX9_guess_258 (by decide) (fun c334 => ?_) (fun c334 => ?_)
                              · rw [if_pos c334] at hF
                                refine lv_iload hx hb dX9_guess_271 (lv_at hl 0 rfl) ?_
                                refine lv_iconst (v := (1 : Int32)) hx hb dX9_guess_273 (by decide) ?_
                                obtain ⟨y335, hy335, hF⟩ := bnd_some hF
                                have J335 : ∀ (H : Heap) (locs : List Loc) (ls : Array Slot), va_P D classes (wld ct ad G y335) H → va_D A (wld ct ad G y335) → va_S A s.heap H locs → lv_has ls 16 [(15, .int x21), (14, .int y16), (13, .int y14), (12, .int y12), (11, .int y10.1), (10, .int y6.2), (9, .int y4.2), (8, .int y2.2), (7, .int y1.2), (0, .ref (ad a)), (1, .int p0), (2, .int p1), (3, .int p2), (4, .int p3), (5, .int p4), (6, .int p5)] → W p l e (headSpec wuX9_guess ({ frames := 1, cells := 0, slots := 0, locals := 34 })).room s m ([.ref (ad a), .int p0, .int p1, .int p2, .int p3, .int p4, .int p5] : List Value).toArray below meth c H locs 0 0 (MQ below (va_Qv (fun (_ : Unit) => True) (fun _ t => kE D ct ad G A y t) A) ([.ref (ad a), .int p0, .int p1, .int p2, .int p3, .int p4, .int p5] : List Value).toArray s 0 0 A) (F0 m 318 ls []) := by
                                  intro H locs ls hP hD hS hl
                                  obtain rfl := Option.some.inj hF
                                  exact J333 _ _ _ hP hD hS (lv_sub hl [0, 1, 2, 3, 4, 5, 6, 7, 8, 9, 10, 11, 12, 13, 14, 15] rfl)
                                clear hF
                                have hF := hy335
                                clear hy335
                                refine lv_icmp_ne (tgt := 307) hx hb dX9_guess_274 (by decide) (fun c336 => ?_) (fun c336 => ?_)
                                · rw [if_neg c336] at hF
                                  refine lv_aload_n hx hb dX9_guess_307 rfl (lv_at hl 9 rfl) ?_
                                  refine lv_iload_n hx hb dX9_guess_308 rfl (lv_at hl 11 rfl) ?_
                                  refine lv_iload hx hb dX9_guess_309 (lv_at hl 6 rfl) ?_
                                  refine lv_iload hx hb dX9_guess_311 (lv_at hl 5 rfl) ?_
                                  refine lv_iload hx hb dX9_guess_313 (lv_at hl 4 rfl) ?_
                                  obtain ⟨y337, hy337, hF⟩ := bnd_some hF
                                  have hf9 := wA_in hD hA9 hS
                                  refine va_callv (va_runV (As := [.int p1, .int y4.2, .int y6.2, .int y10.1]) (rest := []) ⟨hx, hb, hml, hown, hts⟩ (kX9_adoptMedian l D ct ad Z G y15.1 H.size a p1 y4.2 y6.2 y10.1 y337 hc hk hy337) (cwV 4 hts gX9_guess_X9_adoptMedian rfl rfl rfl (by decide +kernel) ⟨Nat.le_of_ble_eq_true rfl, Nat.le_of_ble_eq_true rfl⟩) ⟨fun a U g mk q => by obtain ⟨q0, q1, qP, qK, qD, qZ, qN⟩ := q; exact ⟨q0, q1, qP, va_K.moved (u := U) (U := U.calling g mk a) (Vm.Alike.refl U.vm) qK, qD, sF.moved (u := U) (U := U.calling g mk a) (Vm.Alike.refl U.vm) qZ, nF.same rfl qN⟩, va_recv hK hP (ci := 9) (q0 := a) rfl (wld_o ct ad G y15.1 hc hk (by decide)), fun U hU hW => ⟨rfl, by rw [hU], by rw [hU]; exact hP, va_K.moved hW.alike hK, hD.weaken (fun _ _ _ _ => trivial), by rw [hU]; exact ((hZ.kept hS.2.1).narrow hf9).moved hW.alike, hN.warm hW⟩⟩ rfl rfl hl.1 rfl (lv_room (Nat.le_of_ble_eq_true rfl)) dX9_guess_315 ⟨(Nat.zero_le _), (Nat.zero_le _)⟩) hS (fun q _ h => hf9 q h) hf9 (fun u t H locs ht hvm hw hB hz1 hk1 hS => ?_)
                                  obtain ⟨hP, hK9, hD9⟩ := hB
                                  rw [ht] at hP
                                  have hD := hD9.weaken (fun _ q _ h => hf9 q.1 h)
                                  obtain rfl := Option.some.inj hF
                                  exact J335 _ _ _ hP hD hS (lv_sub hl [0, 1, 2, 3, 4, 5, 6, 7, 8, 9, 10, 11, 12, 13, 14, 15] rfl)
                                · rw [if_pos c336] at hF
                                  refine lv_aload_n hx hb dX9_guess_277 rfl (lv_at hl 9 rfl) ?_
                                  refine lv_iload_n hx hb dX9_guess_278 rfl (lv_at hl 11 rfl) ?_
                                  refine lv_iload hx hb dX9_guess_279 (lv_at hl 3 rfl) ?_
                                  obtain ⟨y338, hy338, hF⟩ := bnd_some hF
                                  have J338 : ∀ (H : Heap) (locs : List Loc) (ls : Array Slot), va_P D classes (wld ct ad G y15.1) H → va_D A (wld ct ad G y15.1) → va_S A s.heap H locs → lv_has ls 16 [(15, .int x21), (14, .int y16), (13, .int y14), (12, .int y12), (11, .int y10.1), (10, .int y6.2), (9, .int y4.2), (8, .int y2.2), (7, .int y1.2), (0, .ref (ad a)), (1, .int p0), (2, .int p1), (3, .int p2), (4, .int p3), (5, .int p4), (6, .int p5)] → W p l e (headSpec wuX9_guess ({ frames := 1, cells := 0, slots := 0, locals := 34 })).room s m ([.ref (ad a), .int p0, .int p1, .int p2, .int p3, .int p4, .int p5] : List Value).toArray below meth c H locs 0 0 (MQ below (va_Qv (fun (_ : Unit) => True) (fun _ t => kE D ct ad G A y t) A) ([.ref (ad a), .int p0, .int p1, .int p2, .int p3, .int p4, .int p5] : List Value).toArray s 0 0 A) (F0 m 301 ls [.int y338, .int p1, .ref (ad a)]) := by
                                    intro H locs ls hP hD hS hl
                                    obtain ⟨y339, hy339, hF⟩ := bnd_some hF
                                    have hf9 := wA_in hD hA9 hS
                                    refine va_callv (va_runV (As := [.int p1, .int y338]) (rest := []) ⟨hx, hb, hml, hown, hts⟩ (kX9_adopt l D ct ad Z G y15.1 H.size a p1 y338 y339 hc hk hy339) (cwV 2 hts gX9_guess_X9_adopt rfl rfl rfl (by decide +kernel) ⟨Nat.le_of_ble_eq_true rfl, Nat.le_of_ble_eq_true rfl⟩) ⟨fun a U g mk q => by obtain ⟨q0, q1, qP, qK, qD, qZ, qN⟩ := q; exact ⟨q0, q1, qP, va_K.moved (u := U) (U := U.calling g mk a) (Vm.Alike.refl U.vm) qK, qD, sF.moved (u := U) (U := U.calling g mk a) (Vm.Alike.refl U.vm) qZ, nF.same rfl qN⟩, va_recv hK hP (ci := 9) (q0 := a) rfl (wld_o ct ad G y15.1 hc hk (by decide)), fun U hU hW => ⟨rfl, by rw [hU], by rw [hU]; exact hP, va_K.moved hW.alike hK, hD.weaken (fun _ _ _ _ => trivial), by rw [hU]; exact ((hZ.kept hS.2.1).narrow hf9).moved hW.alike, hN.warm hW⟩⟩ rfl rfl hl.1 rfl (lv_room (Nat.le_of_ble_eq_true rfl)) dX9_guess_301 ⟨(Nat.zero_le _), (Nat.zero_le _)⟩) hS (fun q _ h => hf9 q h) hf9 (fun u t H locs ht hvm hw hB hz1 hk1 hS => ?_)
                                    obtain ⟨hP, hK9, hD9⟩ := hB
                                    rw [ht] at hP
                                    have hD := hD9.weaken (fun _ q _ h => hf9 q.1 h)
                                    refine lv_goto (tgt := 318) hx hb dX9_guess_304 (by decide) ?_
                                    obtain rfl := Option.some.inj hF
                                    exact J335 _ _ _ hP hD hS (lv_sub hl [0, 1, 2, 3, 4, 5, 6, 7, 8, 9, 10, 11, 12, 13, 14, 15] rfl)
                                  clear hF
                                  have hF := hy338
                                  clear hy338
                                  refine lv_if_eq (tgt := 289) hx hb dX9_guess_281 (by decide) (fun c340 => ?_) (fun c340 => ?_)
                                  · rw [if_pos c340] at hF
                                    refine lv_iload hx hb dX9_guess_289 (lv_at hl 2 rfl) ?_
                                    obtain ⟨y341, hy341, hF⟩ := bnd_some hF
                                    have J341 : ∀ (H : Heap) (locs : List Loc) (ls : Array Slot), va_P D classes (wld ct ad G y15.1) H → va_D A (wld ct ad G y15.1) → va_S A s.heap H locs → lv_has ls 16 [(15, .int x21), (14, .int y16), (13, .int y14), (12, .int y12), (11, .int y10.1), (10, .int y6.2), (9, .int y4.2), (8, .int y2.2), (7, .int y1.2), (0, .ref (ad a)), (1, .int p0), (2, .int p1), (3, .int p2), (4, .int p3), (5, .int p4), (6, .int p5)] → W p l e (headSpec wuX9_guess ({ frames := 1, cells := 0, slots := 0, locals := 34 })).room s m ([.ref (ad a), .int p0, .int p1, .int p2, .int p3, .int p4, .int p5] : List Value).toArray below meth c H locs 0 0 (MQ below (va_Qv (fun (_ : Unit) => True) (fun _ t => kE D ct ad G A y t) A) ([.ref (ad a), .int p0, .int p1, .int p2, .int p3, .int p4, .int p5] : List Value).toArray s 0 0 A) (F0 m 301 ls [.int y341, .int p1, .ref (ad a)]) := by
                                      intro H locs ls hP hD hS hl
                                      obtain rfl := Option.some.inj hF
                                      exact J338 _ _ _ hP hD hS (lv_sub hl [0, 1, 2, 3, 4, 5, 6, 7, 8, 9, 10, 11, 12, 13, 14, 15] rfl)
                                    clear hF
                                    have hF := hy341
                                    clear hy341
                                    refine lv_if_eq (tgt := 299) hx hb dX9_guess_291 (by decide) (fun c342 => ?_) (fun c342 => ?_)
                                    · rw [if_pos c342] at hF
                                      refine lv_iload hx hb dX9_guess_299 (lv_at hl 4 rfl) ?_
                                      obtain rfl := Option.some.inj hF
                                      exact J341 _ _ _ hP hD hS (lv_sub hl [0, 1, 2, 3, 4, 5, 6, 7, 8, 9, 10, 11, 12, 13, 14, 15] rfl)
                                    · rw [if_neg c342] at hF
                                      refine lv_iload hx hb dX9_guess_294 (lv_at hl 5 rfl) ?_
                                      refine lv_goto (tgt := 301) hx hb dX9_guess_296 (by decide) ?_
                                      obtain rfl := Option.some.inj hF
                                      exact J341 _ _ _ hP hD hS (lv_sub hl [0, 1, 2, 3, 4, 5, 6, 7, 8, 9, 10, 11, 12, 13, 14, 15] rfl)
                                  · rw [if_neg c340] at hF
                                    refine lv_iload hx hb dX9_guess_284 (lv_at hl 6 rfl) ?_
                                    refine lv_goto (tgt := 301) hx hb dX9_guess_286 (by decide) ?_
                                    obtain rfl := Option.some.inj hF
                                    exact J338 _ _ _ hP hD hS (lv_sub hl [0, 1, 2, 3, 4, 5, 6, 7, 8, 9, 10, 11, 12, 13, 14, 15] rfl)
                              · rw [if_neg c334] at hF
                                refine lv_aload_n hx hb dX9_guess_261 rfl (lv_at hl 9 rfl) ?_
                                refine lv_iload_n hx hb dX9_guess_262 rfl (lv_at hl 11 rfl) ?_
                                refine lv_iload hx hb dX9_guess_263 (lv_at hl 6 rfl) ?_
                                obtain ⟨y343, hy343, hF⟩ := bnd_some hF
                                have hf9 := wA_in hD hA9 hS
                                refine va_callv (va_runV (As := [.int p1, .int y4.2]) (rest := []) ⟨hx, hb, hml, hown, hts⟩ (kX9_adopt l D ct ad Z G y15.1 H.size a p1 y4.2 y343 hc hk hy343) (cwV 2 hts gX9_guess_X9_adopt rfl rfl rfl (by decide +kernel) ⟨Nat.le_of_ble_eq_true rfl, Nat.le_of_ble_eq_true rfl⟩) ⟨fun a U g mk q => by obtain ⟨q0, q1, qP, qK, qD, qZ, qN⟩ := q; exact ⟨q0, q1, qP, va_K.moved (u := U) (U := U.calling g mk a) (Vm.Alike.refl U.vm) qK, qD, sF.moved (u := U) (U := U.calling g mk a) (Vm.Alike.refl U.vm) qZ, nF.same rfl qN⟩, va_recv hK hP (ci := 9) (q0 := a) rfl (wld_o ct ad G y15.1 hc hk (by decide)), fun U hU hW => ⟨rfl, by rw [hU], by rw [hU]; exact hP, va_K.moved hW.alike hK, hD.weaken (fun _ _ _ _ => trivial), by rw [hU]; exact ((hZ.kept hS.2.1).narrow hf9).moved hW.alike, hN.warm hW⟩⟩ rfl rfl hl.1 rfl (lv_room (Nat.le_of_ble_eq_true rfl)) dX9_guess_265 ⟨(Nat.zero_le _), (Nat.zero_le _)⟩) hS (fun q _ h => hf9 q h) hf9 (fun u t H locs ht hvm hw hB hz1 hk1 hS => ?_)
                                obtain ⟨hP, hK9, hD9⟩ := hB
                                rw [ht] at hP
                                have hD := hD9.weaken (fun _ q _ h => hf9 q.1 h)
                                refine lv_goto (tgt := 318) hx hb dX9_guess_268 (by decide) ?_
                                obtain rfl := Option.some.inj hF
                                exact J333 _ _ _ hP hD hS (lv_sub hl [0, 1, 2, 3, 4, 5, 6, 7, 8, 9, 10, 11, 12, 13, 14, 15] rfl)
                        · rw [if_pos c312] at hF
                          refine lv_iload hx hb dX9_guess_231 (lv_at hl 1 rfl) ?_
                          obtain ⟨y344, hy344, hF⟩ := bnd_some hF
                          have J344 : ∀ (H : Heap) (locs : List Loc) (ls : Array Slot), va_P D classes (wld ct ad G y344) H → va_D A (wld ct ad G y344) → va_S A s.heap H locs → lv_has ls 16 [(15, .int x21), (14, .int y16), (13, .int y14), (12, .int y12), (11, .int y10.1), (10, .int y6.2), (9, .int y4.2), (8, .int y2.2), (7, .int y1.2), (0, .ref (ad a)), (1, .int p0), (2, .int p1), (3, .int p2), (4, .int p3), (5, .int p4), (6, .int p5)] → W p l e (headSpec wuX9_guess ({ frames := 1, cells := 0, slots := 0, locals := 34 })).room s m ([.ref (ad a), .int p0, .int p1, .int p2, .int p3, .int p4, .int p5] : List Value).toArray below meth c H locs 0 0 (MQ below (va_Qv (fun (_ : Unit) => True) (fun _ t => kE D ct ad G A y t) A) ([.ref (ad a), .int p0, .int p1, .int p2, .int p3, .int p4, .int p5] : List Value).toArray s 0 0 A) (F0 m 318 ls []) := by
                            intro H locs ls hP hD hS hl
                            obtain rfl := Option.some.inj hF
                            exact J311 _ _ _ hP hD hS (lv_sub hl [0, 1, 2, 3, 4, 5, 6, 7, 8, 9, 10, 11, 12, 13, 14, 15] rfl)
                          clear hF
                          have hF := hy344
                          clear hy344
                          refine lv_if_eq (tgt := 246) hx hb dX9_guess_233 (by decide) (fun c345 => ?_) (fun c345 => ?_)
                          · rw [if_pos c345] at hF
                            refine lv_iload hx hb dX9_guess_246 (lv_at hl 5 rfl) ?_
                            obtain ⟨y346, hy346, hF⟩ := bnd_some hF
                            have J346 : ∀ (H : Heap) (locs : List Loc) (ls : Array Slot), va_P D classes (wld ct ad G y346) H → va_D A (wld ct ad G y346) → va_S A s.heap H locs → lv_has ls 16 [(15, .int x21), (14, .int y16), (13, .int y14), (12, .int y12), (11, .int y10.1), (10, .int y6.2), (9, .int y4.2), (8, .int y2.2), (7, .int y1.2), (0, .ref (ad a)), (1, .int p0), (2, .int p1), (3, .int p2), (4, .int p3), (5, .int p4), (6, .int p5)] → W p l e (headSpec wuX9_guess ({ frames := 1, cells := 0, slots := 0, locals := 34 })).room s m ([.ref (ad a), .int p0, .int p1, .int p2, .int p3, .int p4, .int p5] : List Value).toArray below meth c H locs 0 0 (MQ below (va_Qv (fun (_ : Unit) => True) (fun _ t => kE D ct ad G A y t) A) ([.ref (ad a), .int p0, .int p1, .int p2, .int p3, .int p4, .int p5] : List Value).toArray s 0 0 A) (F0 m 318 ls []) := by
                              intro H locs ls hP hD hS hl
                              obtain rfl := Option.some.inj hF
                              exact J344 _ _ _ hP hD hS (lv_sub hl [0, 1, 2, 3, 4, 5, 6, 7, 8, 9, 10, 11, 12, 13, 14, 15] rfl)
                            clear hF
                            have hF := hy346
                            clear hy346
                            refine lv_if_ge (tgt := 271) hx hb dX9_guess_248 (by decide) (fun c347 => ?_) (fun c347 => ?_)
                            · rw [if_pos c347] at hF
                              refine lv_iload hx hb dX9_guess_271 (lv_at hl 0 rfl) ?_
                              refine lv_iconst (v := (1 : Int32)) hx hb dX9_guess_273 (by decide) ?_
                              obtain ⟨y348, hy348, hF⟩ := bnd_some hF
                              have J348 : ∀ (H : Heap) (locs : List Loc) (ls : Array Slot), va_P D classes (wld ct ad G y348) H → va_D A (wld ct ad G y348) → va_S A s.heap H locs → lv_has ls 16 [(15, .int x21), (14, .int y16), (13, .int y14), (12, .int y12), (11, .int y10.1), (10, .int y6.2), (9, .int y4.2), (8, .int y2.2), (7, .int y1.2), (0, .ref (ad a)), (1, .int p0), (2, .int p1), (3, .int p2), (4, .int p3), (5, .int p4), (6, .int p5)] → W p l e (headSpec wuX9_guess ({ frames := 1, cells := 0, slots := 0, locals := 34 })).room s m ([.ref (ad a), .int p0, .int p1, .int p2, .int p3, .int p4, .int p5] : List Value).toArray below meth c H locs 0 0 (MQ below (va_Qv (fun (_ : Unit) => True) (fun _ t => kE D ct ad G A y t) A) ([.ref (ad a), .int p0, .int p1, .int p2, .int p3, .int p4, .int p5] : List Value).toArray s 0 0 A) (F0 m 318 ls []) := by
                                intro H locs ls hP hD hS hl
                                obtain rfl := Option.some.inj hF
                                exact J346 _ _ _ hP hD hS (lv_sub hl [0, 1, 2, 3, 4, 5, 6, 7, 8, 9, 10, 11, 12, 13, 14, 15] rfl)
                              clear hF
                              have hF := hy348
                              clear hy348
                              refine lv_icmp_ne (tgt := 307) hx hb dX9_guess_274 (by decide) (fun c349 => ?_) (fun c349 => ?_)
                              · rw [if_neg c349] at hF
                                refine lv_aload_n hx hb dX9_guess_307 rfl (lv_at hl 9 rfl) ?_
                                refine lv_iload_n hx hb dX9_guess_308 rfl (lv_at hl 11 rfl) ?_
                                refine lv_iload hx hb dX9_guess_309 (lv_at hl 6 rfl) ?_
                                refine lv_iload hx hb dX9_guess_311 (lv_at hl 5 rfl) ?_
                                refine lv_iload hx hb dX9_guess_313 (lv_at hl 4 rfl) ?_
                                obtain ⟨y350, hy350, hF⟩ := bnd_some hF
                                have hf9 := wA_in hD hA9 hS
                                refine va_callv (va_runV (As := [.int p1, .int y4.2, .int y6.2, .int y10.1]) (rest := []) ⟨hx, hb, hml, hown, hts⟩ (kX9_adoptMedian l D ct ad Z G y15.1 H.size a p1 y4.2 y6.2 y10.1 y350 hc hk hy350) (cwV 4 hts gX9_guess_X9_adoptMedian rfl rfl rfl (by decide +kernel) ⟨Nat.le_of_ble_eq_true rfl, Nat.le_of_ble_eq_true rfl⟩) ⟨fun a U g mk q => by obtain ⟨q0, q1, qP, qK, qD, qZ, qN⟩ := q; exact ⟨q0, q1, qP, va_K.moved (u := U) (U := U.calling g mk a) (Vm.Alike.refl U.vm) qK, qD, sF.moved (u := U) (U := U.calling g mk a) (Vm.Alike.refl U.vm) qZ, nF.same rfl qN⟩, va_recv hK hP (ci := 9) (q0 := a) rfl (wld_o ct ad G y15.1 hc hk (by decide)), fun U hU hW => ⟨rfl, by rw [hU], by rw [hU]; exact hP, va_K.moved hW.alike hK, hD.weaken (fun _ _ _ _ => trivial), by rw [hU]; exact ((hZ.kept hS.2.1).narrow hf9).moved hW.alike, hN.warm hW⟩⟩ rfl rfl hl.1 rfl (lv_room (Nat.le_of_ble_eq_true rfl)) dX9_guess_315 ⟨(Nat.zero_le _), (Nat.zero_le _)⟩) hS (fun q _ h => hf9 q h) hf9 (fun u t H locs ht hvm hw hB hz1 hk1 hS => ?_)
                                obtain ⟨hP, hK9, hD9⟩ := hB
                                rw [ht] at hP
                                have hD := hD9.weaken (fun _ q _ h => hf9 q.1 h)
                                obtain rfl := Option.some.inj hF
                                exact J348 _ _ _ hP hD hS (lv_sub hl [0, 1, 2, 3, 4, 5, 6, 7, 8, 9, 10, 11, 12, 13, 14, 15] rfl)
                              · rw [if_pos c349] at hF
                                refine lv_aload_n hx hb dX9_guess_277 rfl (lv_at hl 9 rfl) ?_
                                refine lv_iload_n hx hb dX9_guess_278 rfl (lv_at hl 11 rfl) ?_
                                refine lv_iload hx hb dX9_guess_279 (lv_at hl 3 rfl) ?_
                                obtain ⟨y351, hy351, hF⟩ := bnd_some hF
                                have J351 : ∀ (H : Heap) (locs : List Loc) (ls : Array Slot), va_P D classes (wld ct ad G y15.1) H → va_D A (wld ct ad G y15.1) → va_S A s.heap H locs → lv_has ls 16 [(15, .int x21), (14, .int y16), (13, .int y14), (12, .int y12), (11, .int y10.1), (10, .int y6.2), (9, .int y4.2), (8, .int y2.2), (7, .int y1.2), (0, .ref (ad a)), (1, .int p0), (2, .int p1), (3, .int p2), (4, .int p3), (5, .int p4), (6, .int p5)] → W p l e (headSpec wuX9_guess ({ frames := 1, cells := 0, slots := 0, locals := 34 })).room s m ([.ref (ad a), .int p0, .int p1, .int p2, .int p3, .int p4, .int p5] : List Value).toArray below meth c H locs 0 0 (MQ below (va_Qv (fun (_ : Unit) => True) (fun _ t => kE D ct ad G A y t) A) ([.ref (ad a), .int p0, .int p1, .int p2, .int p3, .int p4, .int p5] : List Value).toArray s 0 0 A) (F0 m 301 ls [.int y351, .int p1, .ref (ad a)]) := by
                                  intro H locs ls hP hD hS hl
                                  obtain ⟨y352, hy352, hF⟩ := bnd_some hF
                                  have hf9 := wA_in hD hA9 hS
                                  refine va_callv (va_runV (As := [.int p1, .int y351]) (rest := []) ⟨hx, hb, hml, hown, hts⟩ (kX9_adopt l D ct ad Z G y15.1 H.size a p1 y351 y352 hc hk hy352) (cwV 2 hts gX9_guess_X9_adopt rfl rfl rfl (by decide +kernel) ⟨Nat.le_of_ble_eq_true rfl, Nat.le_of_ble_eq_true rfl⟩) ⟨fun a U g mk q => by obtain ⟨q0, q1, qP, qK, qD, qZ, qN⟩ := q; exact ⟨q0, q1, qP, va_K.moved (u := U) (U := U.calling g mk a) (Vm.Alike.refl U.vm) qK, qD, sF.moved (u := U) (U := U.calling g mk a) (Vm.Alike.refl U.vm) qZ, nF.same rfl qN⟩, va_recv hK hP (ci := 9) (q0 := a) rfl (wld_o ct ad G y15.1 hc hk (by decide)), fun U hU hW => ⟨rfl, by rw [hU], by rw [hU]; exact hP, va_K.moved hW.alike hK, hD.weaken (fun _ _ _ _ => trivial), by rw [hU]; exact ((hZ.kept hS.2.1).narrow hf9).moved hW.alike, hN.warm hW⟩⟩ rfl rfl hl.1 rfl (lv_room (Nat.le_of_ble_eq_true rfl)) dX9_guess_301 ⟨(Nat.zero_le _), (Nat.zero_le _)⟩) hS (fun q _ h => hf9 q h) hf9 (fun u t H locs ht hvm hw hB hz1 hk1 hS => ?_)
                                  obtain ⟨hP, hK9, hD9⟩ := hB
                                  rw [ht] at hP
                                  have hD := hD9.weaken (fun _ q _ h => hf9 q.1 h)
                                  refine lv_goto (tgt := 318) hx hb dX9_guess_304 (by decide) ?_
                                  obtain rfl := Option.some.inj hF
                                  exact J348 _ _ _ hP hD hS (lv_sub hl [0, 1, 2, 3, 4, 5, 6, 7, 8, 9, 10, 11, 12, 13, 14, 15] rfl)
                                clear hF
                                have hF := hy351
                                clear hy351
                                refine lv_if_eq (tgt := 289) hx hb dX9_guess_281 (by decide) (fun c353 => ?_) (fun c353 => ?_)
                                · rw [if_pos c353] at hF
                                  refine lv_iload hx hb dX9_guess_289 (lv_at hl 2 rfl) ?_
                                  obtain ⟨y354, hy354, hF⟩ := bnd_some hF
                                  have J354 : ∀ (H : Heap) (locs : List Loc) (ls : Array Slot), va_P D classes (wld ct ad G y15.1) H → va_D A (wld ct ad G y15.1) → va_S A s.heap H locs → lv_has ls 16 [(15, .int x21), (14, .int y16), (13, .int y14), (12, .int y12), (11, .int y10.1), (10, .int y6.2), (9, .int y4.2), (8, .int y2.2), (7, .int y1.2), (0, .ref (ad a)), (1, .int p0), (2, .int p1), (3, .int p2), (4, .int p3), (5, .int p4), (6, .int p5)] → W p l e (headSpec wuX9_guess ({ frames := 1, cells := 0, slots := 0, locals := 34 })).room s m ([.ref (ad a), .int p0, .int p1, .int p2, .int p3, .int p4, .int p5] : List Value).toArray below meth c H locs 0 0 (MQ below (va_Qv (fun (_ : Unit) => True) (fun _ t => kE D ct ad G A y t) A) ([.ref (ad a), .int p0, .int p1, .int p2, .int p3, .int p4, .int p5] : List Value).toArray s 0 0 A) (F0 m 301 ls [.int y354, .int p1, .ref (ad a)]) := by
                                    intro H locs ls hP hD hS hl
                                    obtain rfl := Option.some.inj hF
                                    exact J351 _ _ _ hP hD hS (lv_sub hl [0, 1, 2, 3, 4, 5, 6, 7, 8, 9, 10, 11, 12, 13, 14, 15] rfl)
                                  clear hF
                                  have hF := hy354
                                  clear hy354
                                  refine lv_if_eq (tgt := 299) hx hb dX9_guess_291 (by decide) (fun c355 => ?_) (fun c355 => ?_)
                                  · rw [if_pos c355] at hF
                                    refine lv_iload hx hb dX9_guess_299 (lv_at hl 4 rfl) ?_
                                    obtain rfl := Option.some.inj hF
                                    exact J354 _ _ _ hP hD hS (lv_sub hl [0, 1, 2, 3, 4, 5, 6, 7, 8, 9, 10, 11, 12, 13, 14, 15] rfl)
                                  · rw [if_neg c355] at hF
                                    refine lv_iload hx hb dX9_guess_294 (lv_at hl 5 rfl) ?_
                                    refine lv_goto (tgt := 301) hx hb dX9_guess_296 (by decide) ?_
                                    obtain rfl := Option.some.inj hF
                                    exact J354 _ _ _ hP hD hS (lv_sub hl [0, 1, 2, 3, 4, 5, 6, 7, 8, 9, 10, 11, 12, 13, 14, 15] rfl)
                                · rw [if_neg c353] at hF
                                  refine lv_iload hx hb dX9_guess_284 (lv_at hl 6 rfl) ?_
                                  refine lv_goto (tgt := 301) hx hb dX9_guess_286 (by decide) ?_
                                  obtain rfl := Option.some.inj hF
                                  exact J351 _ _ _ hP hD hS (lv_sub hl [0, 1, 2, 3, 4, 5, 6, 7, 8, 9, 10, 11, 12, 13, 14, 15] rfl)
                            · rw [if_neg c347] at hF
                              refine lv_iload hx hb dX9_guess_251 (lv_at hl 4 rfl) ?_
                              obtain ⟨y356, hy356, hF⟩ := bnd_some hF
                              have J356 : ∀ (H : Heap) (locs : List Loc) (ls : Array Slot), va_P D classes (wld ct ad G y356) H → va_D A (wld ct ad G y356) → va_S A s.heap H locs → lv_has ls 16 [(15, .int x21), (14, .int y16), (13, .int y14), (12, .int y12), (11, .int y10.1), (10, .int y6.2), (9, .int y4.2), (8, .int y2.2), (7, .int y1.2), (0, .ref (ad a)), (1, .int p0), (2, .int p1), (3, .int p2), (4, .int p3), (5, .int p4), (6, .int p5)] → W p l e (headSpec wuX9_guess ({ frames := 1, cells := 0, slots := 0, locals := 34 })).room s m ([.ref (ad a), .int p0, .int p1, .int p2, .int p3, .int p4, .int p5] : List Value).toArray below meth c H locs 0 0 (MQ below (va_Qv (fun (_ : Unit) => True) (fun _ t => kE D ct ad G A y t) A) ([.ref (ad a), .int p0, .int p1, .int p2, .int p3, .int p4, .int p5] : List Value).toArray s 0 0 A) (F0 m 318 ls []) := by
                                intro H locs ls hP hD hS hl
                                obtain rfl := Option.some.inj hF
                                exact J346 _ _ _ hP hD hS (lv_sub hl [0, 1, 2, 3, 4, 5, 6, 7, 8, 9, 10, 11, 12, 13, 14, 15] rfl)
                              clear hF
                              have hF := hy356
                              clear hy356
                              refine lv_if_ge (tgt := 271) hx hb dX9_guess_253 (by decide) (fun c357 => ?_) (fun c357 => ?_)
                              · rw [if_pos c357] at hF
                                refine lv_iload hx hb dX9_guess_271 (lv_at hl 0 rfl) ?_
                                refine lv_iconst (v := (1 : Int32)) hx hb dX9_guess_273 (by decide) ?_
                                obtain ⟨y358, hy358, hF⟩ := bnd_some hF
                                have J358 : ∀ (H : Heap) (locs : List Loc) (ls : Array Slot), va_P D classes (wld ct ad G y358) H → va_D A (wld ct ad G y358) → va_S A s.heap H locs → lv_has ls 16 [(15, .int x21), (14, .int y16), (13, .int y14), (12, .int y12), (11, .int y10.1), (10, .int y6.2), (9, .int y4.2), (8, .int y2.2), (7, .int y1.2), (0, .ref (ad a)), (1, .int p0), (2, .int p1), (3, .int p2), (4, .int p3), (5, .int p4), (6, .int p5)] → W p l e (headSpec wuX9_guess ({ frames := 1, cells := 0, slots := 0, locals := 34 })).room s m ([.ref (ad a), .int p0, .int p1, .int p2, .int p3, .int p4, .int p5] : List Value).toArray below meth c H locs 0 0 (MQ below (va_Qv (fun (_ : Unit) => True) (fun _ t => kE D ct ad G A y t) A) ([.ref (ad a), .int p0, .int p1, .int p2, .int p3, .int p4, .int p5] : List Value).toArray s 0 0 A) (F0 m 318 ls []) := by
                                  intro H locs ls hP hD hS hl
                                  obtain rfl := Option.some.inj hF
                                  exact J356 _ _ _ hP hD hS (lv_sub hl [0, 1, 2, 3, 4, 5, 6, 7, 8, 9, 10, 11, 12, 13, 14, 15] rfl)
                                clear hF
                                have hF := hy358
                                clear hy358
                                refine lv_icmp_ne (tgt := 307) hx hb dX9_guess_274 (by decide) (fun c359 => ?_) (fun c359 => ?_)
                                · rw [if_neg c359] at hF
                                  refine lv_aload_n hx hb dX9_guess_307 rfl (lv_at hl 9 rfl) ?_
                                  refine lv_iload_n hx hb dX9_guess_308 rfl (lv_at hl 11 rfl) ?_
                                  refine lv_iload hx hb dX9_guess_309 (lv_at hl 6 rfl) ?_
                                  refine lv_iload hx hb dX9_guess_311 (lv_at hl 5 rfl) ?_
                                  refine lv_iload hx hb dX9_guess_313 (lv_at hl 4 rfl) ?_
                                  obtain ⟨y360, hy360, hF⟩ := bnd_some hF
                                  have hf9 := wA_in hD hA9 hS
                                  refine va_callv (va_runV (As := [.int p1, .int y4.2, .int y6.2, .int y10.1]) (rest := []) ⟨hx, hb, hml, hown, hts⟩ (kX9_adoptMedian l D ct ad Z G y15.1 H.size a p1 y4.2 y6.2 y10.1 y360 hc hk hy360) (cwV 4 hts gX9_guess_X9_adoptMedian rfl rfl rfl (by decide +kernel) ⟨Nat.le_of_ble_eq_true rfl, Nat.le_of_ble_eq_true rfl⟩) ⟨fun a U g mk q => by obtain ⟨q0, q1, qP, qK, qD, qZ, qN⟩ := q; exact ⟨q0, q1, qP, va_K.moved (u := U) (U := U.calling g mk a) (Vm.Alike.refl U.vm) qK, qD, sF.moved (u := U) (U := U.calling g mk a) (Vm.Alike.refl U.vm) qZ, nF.same rfl qN⟩, va_recv hK hP (ci := 9) (q0 := a) rfl (wld_o ct ad G y15.1 hc hk (by decide)), fun U hU hW => ⟨rfl, by rw [hU], by rw [hU]; exact hP, va_K.moved hW.alike hK, hD.weaken (fun _ _ _ _ => trivial), by rw [hU]; exact ((hZ.kept hS.2.1).narrow hf9).moved hW.alike, hN.warm hW⟩⟩ rfl rfl hl.1 rfl (lv_room (Nat.le_of_ble_eq_true rfl)) dX9_guess_315 ⟨(Nat.zero_le _), (Nat.zero_le _)⟩) hS (fun q _ h => hf9 q h) hf9 (fun u t H locs ht hvm hw hB hz1 hk1 hS => ?_)
                                  obtain ⟨hP, hK9, hD9⟩ := hB
                                  rw [ht] at hP
                                  have hD := hD9.weaken (fun _ q _ h => hf9 q.1 h)
                                  obtain rfl := Option.some.inj hF
                                  exact J358 _ _ _ hP hD hS (lv_sub hl [0, 1, 2, 3, 4, 5, 6, 7, 8, 9, 10, 11, 12, 13, 14, 15] rfl)
                                · rw [if_pos c359] at hF
                                  refine lv_aload_n hx hb dX9_guess_277 rfl (lv_at hl 9 rfl) ?_
                                  refine lv_iload_n hx hb dX9_guess_278 rfl (lv_at hl 11 rfl) ?_
                                  refine lv_iload hx hb dX9_guess_279 (lv_at hl 3 rfl) ?_
                                  obtain ⟨y361, hy361, hF⟩ := bnd_some hF
                                  have J361 : ∀ (H : Heap) (locs : List Loc) (ls : Array Slot), va_P D classes (wld ct ad G y15.1) H → va_D A (wld ct ad G y15.1) → va_S A s.heap H locs → lv_has ls 16 [(15, .int x21), (14, .int y16), (13, .int y14), (12, .int y12), (11, .int y10.1), (10, .int y6.2), (9, .int y4.2), (8, .int y2.2), (7, .int y1.2), (0, .ref (ad a)), (1, .int p0), (2, .int p1), (3, .int p2), (4, .int p3), (5, .int p4), (6, .int p5)] → W p l e (headSpec wuX9_guess ({ frames := 1, cells := 0, slots := 0, locals := 34 })).room s m ([.ref (ad a), .int p0, .int p1, .int p2, .int p3, .int p4, .int p5] : List Value).toArray below meth c H locs 0 0 (MQ below (va_Qv (fun (_ : Unit) => True) (fun _ t => kE D ct ad G A y t) A) ([.ref (ad a), .int p0, .int p1, .int p2, .int p3, .int p4, .int p5] : List Value).toArray s 0 0 A) (F0 m 301 ls [.int y361, .int p1, .ref (ad a)]) := by
                                    intro H locs ls hP hD hS hl
                                    obtain ⟨y362, hy362, hF⟩ := bnd_some hF
                                    have hf9 := wA_in hD hA9 hS
                                    refine va_callv (va_runV (As := [.int p1, .int y361]) (rest := []) ⟨hx, hb, hml, hown, hts⟩ (kX9_adopt l D ct ad Z G y15.1 H.size a p1 y361 y362 hc hk hy362) (cwV 2 hts gX9_guess_X9_adopt rfl rfl rfl (by decide +kernel) ⟨Nat.le_of_ble_eq_true rfl, Nat.le_of_ble_eq_true rfl⟩) ⟨fun a U g mk q => by obtain ⟨q0, q1, qP, qK, qD, qZ, qN⟩ := q; exact ⟨q0, q1, qP, va_K.moved (u := U) (U := U.calling g mk a) (Vm.Alike.refl U.vm) qK, qD, sF.moved (u := U) (U := U.calling g mk a) (Vm.Alike.refl U.vm) qZ, nF.same rfl qN⟩, va_recv hK hP (ci := 9) (q0 := a) rfl (wld_o ct ad G y15.1 hc hk (by decide)), fun U hU hW => ⟨rfl, by rw [hU], by rw [hU]; exact hP, va_K.moved hW.alike hK, hD.weaken (fun _ _ _ _ => trivial), by rw [hU]; exact ((hZ.kept hS.2.1).narrow hf9).moved hW.alike, hN.warm hW⟩⟩ rfl rfl hl.1 rfl (lv_room (Nat.le_of_ble_eq_true rfl)) dX9_guess_301 ⟨(Nat.zero_le _), (Nat.zero_le _)⟩) hS (fun q _ h => hf9 q h) hf9 (fun u t H locs ht hvm hw hB hz1 hk1 hS => ?_)
                                    obtain ⟨hP, hK9, hD9⟩ := hB
                                    rw [ht] at hP
                                    have hD := hD9.weaken (fun _ q _ h => hf9 q.1 h)
                                    refine lv_goto (tgt := 318) hx hb dX9_guess_304 (by decide) ?_
                                    obtain rfl := Option.some.inj hF
                                    exact J358 _ _ _ hP hD hS (lv_sub hl [0, 1, 2, 3, 4, 5, 6, 7, 8, 9, 10, 11, 12, 13, 14, 15] rfl)
                                  clear hF
                                  have hF := hy361
                                  clear hy361
                                  refine lv_if_eq (tgt := 289) hx hb dX9_guess_281 (by decide) (fun c363 => ?_) (fun c363 => ?_)
                                  · rw [if_pos c363] at hF
                                    refine lv_iload hx hb dX9_guess_289 (lv_at hl 2 rfl) ?_
                                    obtain ⟨y364, hy364, hF⟩ := bnd_some hF
                                    have J364 : ∀ (H : Heap) (locs : List Loc) (ls : Array Slot), va_P D classes (wld ct ad G y15.1) H → va_D A (wld ct ad G y15.1) → va_S A s.heap H locs → lv_has ls 16 [(15, .int x21), (14, .int y16), (13, .int y14), (12, .int y12), (11, .int y10.1), (10, .int y6.2), (9, .int y4.2), (8, .int y2.2), (7, .int y1.2), (0, .ref (ad a)), (1, .int p0), (2, .int p1), (3, .int p2), (4, .int p3), (5, .int p4), (6, .int p5)] → W p l e (headSpec wuX9_guess ({ frames := 1, cells := 0, slots := 0, locals := 34 })).room s m ([.ref (ad a), .int p0, .int p1, .int p2, .int p3, .int p4, .int p5] : List Value).toArray below meth c H locs 0 0 (MQ below (va_Qv (fun (_ : Unit) => True) (fun _ t => kE D ct ad G A y t) A) ([.ref (ad a), .int p0, .int p1, .int p2, .int p3, .int p4, .int p5] : List Value).toArray s 0 0 A) (F0 m 301 ls [.int y364, .int p1, .ref (ad a)]) := by
                                      intro H locs ls hP hD hS hl
                                      obtain rfl := Option.some.inj hF
                                      exact J361 _ _ _ hP hD hS (lv_sub hl [0, 1, 2, 3, 4, 5, 6, 7, 8, 9, 10, 11, 12, 13, 14, 15] rfl)
                                    clear hF
                                    have hF := hy364
                                    clear hy364
                                    refine lv_if_eq (tgt := 299) hx hb dX9_guess_291 (by decide) (fun c365 => ?_) (fun c365 => ?_)
                                    · rw [if_pos c365] at hF
                                      refine lv_iload hx hb dX9_guess_299 (lv_at hl 4 rfl) ?_
                                      obtain rfl := Option.some.inj hF
                                      exact J364 _ _ _ hP hD hS (lv_sub hl [0, 1, 2, 3, 4, 5, 6, 7, 8, 9, 10, 11, 12, 13, 14, 15] rfl)
                                    · rw [if_neg c365] at hF
                                      refine lv_iload hx hb dX9_guess_294 (lv_at hl 5 rfl) ?_
                                      refine lv_goto (tgt := 301) hx hb dX9_guess_296 (by decide) ?_
                                      obtain rfl := Option.some.inj hF
                                      exact J364 _ _ _ hP hD hS (lv_sub hl [0, 1, 2, 3, 4, 5, 6, 7, 8, 9, 10, 11, 12, 13, 14, 15] rfl)
                                  · rw [if_neg c363] at hF
                                    refine lv_iload hx hb dX9_guess_284 (lv_at hl 6 rfl) ?_
                                    refine lv_goto (tgt := 301) hx hb dX9_guess_286 (by decide) ?_
                                    obtain rfl := Option.some.inj hF
                                    exact J361 _ _ _ hP hD hS (lv_sub hl [0, 1, 2, 3, 4, 5, 6, 7, 8, 9, 10, 11, 12, 13, 14, 15] rfl)
                              · rw [if_neg c357] at hF
                                refine lv_iload hx hb dX9_guess_256 (lv_at hl 6 rfl) ?_
                                obtain ⟨y366, hy366, hF⟩ := bnd_some hF
                                have J366 : ∀ (H : Heap) (locs : List Loc) (ls : Array Slot), va_P D classes (wld ct ad G y366) H → va_D A (wld ct ad G y366) → va_S A s.heap H locs → lv_has ls 16 [(15, .int x21), (14, .int y16), (13, .int y14), (12, .int y12), (11, .int y10.1), (10, .int y6.2), (9, .int y4.2), (8, .int y2.2), (7, .int y1.2), (0, .ref (ad a)), (1, .int p0), (2, .int p1), (3, .int p2), (4, .int p3), (5, .int p4), (6, .int p5)] → W p l e (headSpec wuX9_guess ({ frames := 1, cells := 0, slots := 0, locals := 34 })).room s m ([.ref (ad a), .int p0, .int p1, .int p2, .int p3, .int p4, .int p5] : List Value).toArray below meth c H locs 0 0 (MQ below (va_Qv (fun (_ : Unit) => True) (fun _ t => kE D ct ad G A y t) A) ([.ref (ad a), .int p0, .int p1, .int p2, .int p3, .int p4, .int p5] : List Value).toArray s 0 0 A) (F0 m 318 ls []) := by
                                  intro H locs ls hP hD hS hl
                                  obtain rfl := Option.some.inj hF
                                  exact J356 _ _ _ hP hD hS (lv_sub hl [0, 1, 2, 3, 4, 5, 6, 7, 8, 9, 10, 11, 12, 13, 14, 15] rfl)
                                clear hF
                                have hF := hy366
                                clear hy366
                                refine lv_if_lt (tgt := 271) hx hb dX9_guess_258 (by decide) (fun c367 => ?_) (fun c367 => ?_)
                                · rw [if_pos c367] at hF
                                  refine lv_iload hx hb dX9_guess_271 (lv_at hl 0 rfl) ?_
                                  refine lv_iconst (v := (1 : Int32)) hx hb dX9_guess_273 (by decide) ?_
                                  obtain ⟨y368, hy368, hF⟩ := bnd_some hF
                                  have J368 : ∀ (H : Heap) (locs : List Loc) (ls : Array Slot), va_P D classes (wld ct ad G y368) H → va_D A (wld ct ad G y368) → va_S A s.heap H locs → lv_has ls 16 [(15, .int x21), (14, .int y16), (13, .int y14), (12, .int y12), (11, .int y10.1), (10, .int y6.2), (9, .int y4.2), (8, .int y2.2), (7, .int y1.2), (0, .ref (ad a)), (1, .int p0), (2, .int p1), (3, .int p2), (4, .int p3), (5, .int p4), (6, .int p5)] → W p l e (headSpec wuX9_guess ({ frames := 1, cells := 0, slots := 0, locals := 34 })).room s m ([.ref (ad a), .int p0, .int p1, .int p2, .int p3, .int p4, .int p5] : List Value).toArray below meth c H locs 0 0 (MQ below (va_Qv (fun (_ : Unit) => True) (fun _ t => kE D ct ad G A y t) A) ([.ref (ad a), .int p0, .int p1, .int p2, .int p3, .int p4, .int p5] : List Value).toArray s 0 0 A) (F0 m 318 ls []) := by
                                    intro H locs ls hP hD hS hl
                                    obtain rfl := Option.some.inj hF
                                    exact J366 _ _ _ hP hD hS (lv_sub hl [0, 1, 2, 3, 4, 5, 6, 7, 8, 9, 10, 11, 12, 13, 14, 15] rfl)
                                  clear hF
                                  have hF := hy368
                                  clear hy368
                                  refine lv_icmp_ne (tgt := 307) hx hb dX9_guess_274 (by decide) (fun c369 => ?_) (fun c369 => ?_)
                                  · rw [if_neg c369] at hF
                                    refine lv_aload_n hx hb dX9_guess_307 rfl (lv_at hl 9 rfl) ?_
                                    refine lv_iload_n hx hb dX9_guess_308 rfl (lv_at hl 11 rfl) ?_
                                    refine lv_iload hx hb dX9_guess_309 (lv_at hl 6 rfl) ?_
                                    refine lv_iload hx hb dX9_guess_311 (lv_at hl 5 rfl) ?_
                                    refine lv_iload hx hb dX9_guess_313 (lv_at hl 4 rfl) ?_
                                    obtain ⟨y370, hy370, hF⟩ := bnd_some hF
                                    have hf9 := wA_in hD hA9 hS
                                    refine va_callv (va_runV (As := [.int p1, .int y4.2, .int y6.2, .int y10.1]) (rest := []) ⟨hx, hb, hml, hown, hts⟩ (kX9_adoptMedian l D ct ad Z G y15.1 H.size a p1 y4.2 y6.2 y10.1 y370 hc hk hy370) (cwV 4 hts gX9_guess_X9_adoptMedian rfl rfl rfl (by decide +kernel) ⟨Nat.le_of_ble_eq_true rfl, Nat.le_of_ble_eq_true rfl⟩) ⟨fun a U g mk q => by obtain ⟨q0, q1, qP, qK, qD, qZ, qN⟩ := q; exact ⟨q0, q1, qP, va_K.moved (u := U) (U := U.calling g mk a) (Vm.Alike.refl U.vm) qK, qD, sF.moved (u := U) (U := U.calling g mk a) (Vm.Alike.refl U.vm) qZ, nF.same rfl qN⟩, va_recv hK hP (ci := 9) (q0 := a) rfl (wld_o ct ad G y15.1 hc hk (by decide)), fun U hU hW => ⟨rfl, by rw [hU], by rw [hU]; exact hP, va_K.moved hW.alike hK, hD.weaken (fun _ _ _ _ => trivial), by rw [hU]; exact ((hZ.kept hS.2.1).narrow hf9).moved hW.alike, hN.warm hW⟩⟩ rfl rfl hl.1 rfl (lv_room (Nat.le_of_ble_eq_true rfl)) dX9_guess_315 ⟨(Nat.zero_le _), (Nat.zero_le _)⟩) hS (fun q _ h => hf9 q h) hf9 (fun u t H locs ht hvm hw hB hz1 hk1 hS => ?_)
                                    obtain ⟨hP, hK9, hD9⟩ := hB
                                    rw [ht] at hP
                                    have hD := hD9.weaken (fun _ q _ h => hf9 q.1 h)
                                    obtain rfl := Option.some.inj hF
                                    exact J368 _ _ _ hP hD hS (lv_sub hl [0, 1, 2, 3, 4, 5, 6, 7, 8, 9, 10, 11, 12, 13, 14, 15] rfl)
                                  · rw [if_pos c369] at hF
                                    refine lv_aload_n hx hb dX9_guess_277 rfl (lv_at hl 9 rfl) ?_
                                    refine lv_iload_n hx hb dX9_guess_278 rfl (lv_at hl 11 rfl) ?_
                                    refine lv_iload hx hb dX9_guess_279 (lv_at hl 3 rfl) ?_
                                    obtain ⟨y371, hy371, hF⟩ := bnd_some hF
                                    have J371 : ∀ (H : Heap) (locs : List Loc) (ls : Array Slot), va_P D classes (wld ct ad G y15.1) H → va_D A (wld ct ad G y15.1) → va_S A s.heap H locs → lv_has ls 16 [(15, .int x21), (14, .int y16), (13, .int y14), (12, .int y12), (11, .int y10.1), (10, .int y6.2), (9, .int y4.2), (8, .int y2.2), (7, .int y1.2), (0, .ref (ad a)), (1, .int p0), (2, .int p1), (3, .int p2), (4, .int p3), (5, .int p4), (6, .int p5)] → W p l e (headSpec wuX9_guess ({ frames := 1, cells := 0, slots := 0, locals := 34 })).room s m ([.ref (ad a), .int p0, .int p1, .int p2, .int p3, .int p4, .int p5] : List Value).toArray below meth c H locs 0 0 (MQ below (va_Qv (fun (_ : Unit) => True) (fun _ t => kE D ct ad G A y t) A) ([.ref (ad a), .int p0, .int p1, .int p2, .int p3, .int p4, .int p5] : List Value).toArray s 0 0 A) (F0 m 301 ls [.int y371, .int p1, .ref (ad a)]) := by
                                      intro H locs ls hP hD hS hl
                                      obtain ⟨y372, hy372, hF⟩ := bnd_some hF
                                      have hf9 := wA_in hD hA9 hS
                                      refine va_callv (va_runV (As := [.int p1, .int y371]) (rest := []) ⟨hx, hb, hml, hown, hts⟩ (kX9_adopt l D ct ad Z G y15.1 H.size a p1 y371 y372 hc hk hy372) (cwV 2 hts gX9_guess_X9_adopt rfl rfl rfl (by decide +kernel) ⟨Nat.le_of_ble_eq_true rfl, Nat.le_of_ble_eq_true rfl⟩) ⟨fun a U g mk q => by obtain ⟨q0, q1, qP, qK, qD, qZ, qN⟩ := q; exact ⟨q0, q1, qP, va_K.moved (u := U) (U := U.calling g mk a) (Vm.Alike.refl U.vm) qK, qD, sF.moved (u := U) (U := U.calling g mk a) (Vm.Alike.refl U.vm) qZ, nF.same rfl qN⟩, va_recv hK hP (ci := 9) (q0 := a) rfl (wld_o ct ad G y15.1 hc hk (by decide)), fun U hU hW => ⟨rfl, by rw [hU], by rw [hU]; exact hP, va_K.moved hW.alike hK, hD.weaken (fun _ _ _ _ => trivial), by rw [hU]; exact ((hZ.kept hS.2.1).narrow hf9).moved hW.alike, hN.warm hW⟩⟩ rfl rfl hl.1 rfl (lv_room (Nat.le_of_ble_eq_true rfl)) dX9_guess_301 ⟨(Nat.zero_le _), (Nat.zero_le _)⟩) hS (fun q _ h => hf9 q h) hf9 (fun u t H locs ht hvm hw hB hz1 hk1 hS => ?_)
                                      obtain ⟨hP, hK9, hD9⟩ := hB
                                      rw [ht] at hP
                                      have hD := hD9.weaken (fun _ q _ h => hf9 q.1 h)
                                      refine lv_goto (tgt := 318) hx hb dX9_guess_304 (by decide) ?_
                                      obtain rfl := Option.some.inj hF
                                      exact J368 _ _ _ hP hD hS (lv_sub hl [0, 1, 2, 3, 4, 5, 6, 7, 8, 9, 10, 11, 12, 13, 14, 15] rfl)
                                    clear hF
                                    have hF := hy371
                                    clear hy371
                                    refine lv_if_eq (tgt := 289) hx hb dX9_guess_281 (by decide) (fun c373 => ?_) (fun c373 => ?_)
                                    · rw [if_pos c373] at hF
                                      refine lv_iload hx hb dX9_guess_289 (lv_at hl 2 rfl) ?_
                                      obtain ⟨y374, hy374, hF⟩ := bnd_some hF
                                      have J374 : ∀ (H : Heap) (locs : List Loc) (ls : Array Slot), va_P D classes (wld ct ad G y15.1) H → va_D A (wld ct ad G y15.1) → va_S A s.heap H locs → lv_has ls 16 [(15, .int x21), (14, .int y16), (13, .int y14), (12, .int y12), (11, .int y10.1), (10, .int y6.2), (9, .int y4.2), (8, .int y2.2), (7, .int y1.2), (0, .ref (ad a)), (1, .int p0), (2, .int p1), (3, .int p2), (4, .int p3), (5, .int p4), (6, .int p5)] → W p l e (headSpec wuX9_guess ({ frames := 1, cells := 0, slots := 0, locals := 34 })).room s m ([.ref (ad a), .int p0, .int p1, .int p2, .int p3, .int p4, .int p5] : List Value).toArray below meth c H locs 0 0 (MQ below (va_Qv (fun (_ : Unit) => True) (fun _ t => kE D ct ad G A y t) A) ([.ref (ad a), .int p0, .int p1, .int p2, .int p3, .int p4, .int p5] : List Value).toArray s 0 0 A) (F0 m 301 ls [.int y374, .int p1, .ref (ad a)]) := by
                                        intro H locs ls hP hD hS hl
                                        obtain rfl := Option.some.inj hF
                                        exact J371 _ _ _ hP hD hS (lv_sub hl [0, 1, 2, 3, 4, 5, 6, 7, 8, 9, 10, 11, 12, 13, 14, 15] rfl)
                                      clear hF
                                      have hF := hy374
                                      clear hy374
                                      refine lv_if_eq (tgt := 299) hx hb dX9_guess_291 (by decide) (fun c375 => ?_) (fun c375 => ?_)
                                      · rw [if_pos c375] at hF
                                        refine lv_iload hx hb dX9_guess_299 (lv_at hl 4 rfl) ?_
                                        obtain rfl := Option.some.inj hF
                                        exact J374 _ _ _ hP hD hS (lv_sub hl [0, 1, 2, 3, 4, 5, 6, 7, 8, 9, 10, 11, 12, 13, 14, 15] rfl)
                                      · rw [if_neg c375] at hF
                                        refine lv_iload hx hb dX9_guess_294 (lv_at hl 5 rfl) ?_
                                        refine lv_goto (tgt := 301) hx hb dX9_guess_296 (by decide) ?_
                                        obtain rfl := Option.some.inj hF
                                        exact J374 _ _ _ hP hD hS (lv_sub hl [0, 1, 2, 3, 4, 5, 6, 7, 8, 9, 10, 11, 12, 13, 14, 15] rfl)
                                    · rw [if_neg c373] at hF
                                      refine lv_iload hx hb dX9_guess_284 (lv_at hl 6 rfl) ?_
                                      refine lv_goto (tgt := 301) hx hb dX9_guess_286 (by decide) ?_
                                      obtain rfl := Option.some.inj hF
                                      exact J371 _ _ _ hP hD hS (lv_sub hl [0, 1, 2, 3, 4, 5, 6, 7, 8, 9, 10, 11, 12, 13, 14, 15] rfl)
                                · rw [if_neg c367] at hF
                                  refine lv_aload_n hx hb dX9_guess_261 rfl (lv_at hl 9 rfl) ?_
                                  refine lv_iload_n hx hb dX9_guess_262 rfl (lv_at hl 11 rfl) ?_
                                  refine lv_iload hx hb dX9_guess_263 (lv_at hl 6 rfl) ?_
                                  obtain ⟨y376, hy376, hF⟩ := bnd_some hF
                                  have hf9 := wA_in hD hA9 hS
                                  refine va_callv (va_runV (As := [.int p1, .int y4.2]) (rest := []) ⟨hx, hb, hml, hown, hts⟩ (kX9_adopt l D ct ad Z G y15.1 H.size a p1 y4.2 y376 hc hk hy376) (cwV 2 hts gX9_guess_X9_adopt rfl rfl rfl (by decide +kernel) ⟨Nat.le_of_ble_eq_true rfl, Nat.le_of_ble_eq_true rfl⟩) ⟨fun a U g mk q => by obtain ⟨q0, q1, qP, qK, qD, qZ, qN⟩ := q; exact ⟨q0, q1, qP, va_K.moved (u := U) (U := U.calling g mk a) (Vm.Alike.refl U.vm) qK, qD, sF.moved (u := U) (U := U.calling g mk a) (Vm.Alike.refl U.vm) qZ, nF.same rfl qN⟩, va_recv hK hP (ci := 9) (q0 := a) rfl (wld_o ct ad G y15.1 hc hk (by decide)), fun U hU hW => ⟨rfl, by rw [hU], by rw [hU]; exact hP, va_K.moved hW.alike hK, hD.weaken (fun _ _ _ _ => trivial), by rw [hU]; exact ((hZ.kept hS.2.1).narrow hf9).moved hW.alike, hN.warm hW⟩⟩ rfl rfl hl.1 rfl (lv_room (Nat.le_of_ble_eq_true rfl)) dX9_guess_265 ⟨(Nat.zero_le _), (Nat.zero_le _)⟩) hS (fun q _ h => hf9 q h) hf9 (fun u t H locs ht hvm hw hB hz1 hk1 hS => ?_)
                                  obtain ⟨hP, hK9, hD9⟩ := hB
                                  rw [ht] at hP
                                  have hD := hD9.weaken (fun _ q _ h => hf9 q.1 h)
                                  refine lv_goto (tgt := 318) hx hb dX9_guess_268 (by decide) ?_
                                  obtain rfl := Option.some.inj hF
                                  exact J366 _ _ _ hP hD hS (lv_sub hl [0, 1, 2, 3, 4, 5, 6, 7, 8, 9, 10, 11, 12, 13, 14, 15] rfl)
                          · rw [if_neg c345] at hF
                            refine lv_aload_n hx hb dX9_guess_236 rfl (lv_at hl 9 rfl) ?_
                            refine lv_iload_n hx hb dX9_guess_237 rfl (lv_at hl 11 rfl) ?_
                            refine lv_iload hx hb dX9_guess_238 (lv_at hl 4 rfl) ?_
                            obtain ⟨y377, hy377, hF⟩ := bnd_some hF
                            have hf9 := wA_in hD hA9 hS
                            refine va_callv (va_runV (As := [.int p1, .int y10.1]) (rest := []) ⟨hx, hb, hml, hown, hts⟩ (kX9_adopt l D ct ad Z G y15.1 H.size a p1 y10.1 y377 hc hk hy377) (cwV 2 hts gX9_guess_X9_adopt rfl rfl rfl (by decide +kernel) ⟨Nat.le_of_ble_eq_true rfl, Nat.le_of_ble_eq_true rfl⟩) ⟨fun a U g mk q => by obtain ⟨q0, q1, qP, qK, qD, qZ, qN⟩ := q; exact ⟨q0, q1, qP, va_K.moved (u := U) (U := U.calling g mk a) (Vm.Alike.refl U.vm) qK, qD, sF.moved (u := U) (U := U.calling g mk a) (Vm.Alike.refl U.vm) qZ, nF.same rfl qN⟩, va_recv hK hP (ci := 9) (q0 := a) rfl (wld_o ct ad G y15.1 hc hk (by decide)), fun U hU hW => ⟨rfl, by rw [hU], by rw [hU]; exact hP, va_K.moved hW.alike hK, hD.weaken (fun _ _ _ _ => trivial), by rw [hU]; exact ((hZ.kept hS.2.1).narrow hf9).moved hW.alike, hN.warm hW⟩⟩ rfl rfl hl.1 rfl (lv_room (Nat.le_of_ble_eq_true rfl)) dX9_guess_240 ⟨(Nat.zero_le _), (Nat.zero_le _)⟩) hS (fun q _ h => hf9 q h) hf9 (fun u t H locs ht hvm hw hB hz1 hk1 hS => ?_)
                            obtain ⟨hP, hK9, hD9⟩ := hB
                            rw [ht] at hP
                            have hD := hD9.weaken (fun _ q _ h => hf9 q.1 h)
                            refine lv_goto (tgt := 318) hx hb dX9_guess_243 (by decide) ?_
                            obtain rfl := Option.some.inj hF
                            exact J344 _ _ _ hP hD hS (lv_sub hl [0, 1, 2, 3, 4, 5, 6, 7, 8, 9, 10, 11, 12, 13, 14, 15] rfl)
                      · rw [if_pos c310] at hF
                        refine lv_iload hx hb dX9_guess_210 (lv_at hl 3 rfl) ?_
                        obtain ⟨y378, hy378, hF⟩ := bnd_some hF
                        have J378 : ∀ (H : Heap) (locs : List Loc) (ls : Array Slot), va_P D classes (wld ct ad G y378) H → va_D A (wld ct ad G y378) → va_S A s.heap H locs → lv_has ls 16 [(15, .int x21), (14, .int y16), (13, .int y14), (12, .int y12), (11, .int y10.1), (10, .int y6.2), (9, .int y4.2), (8, .int y2.2), (7, .int y1.2), (0, .ref (ad a)), (1, .int p0), (2, .int p1), (3, .int p2), (4, .int p3), (5, .int p4), (6, .int p5)] → W p l e (headSpec wuX9_guess ({ frames := 1, cells := 0, slots := 0, locals := 34 })).room s m ([.ref (ad a), .int p0, .int p1, .int p2, .int p3, .int p4, .int p5] : List Value).toArray below meth c H locs 0 0 (MQ below (va_Qv (fun (_ : Unit) => True) (fun _ t => kE D ct ad G A y t) A) ([.ref (ad a), .int p0, .int p1, .int p2, .int p3, .int p4, .int p5] : List Value).toArray s 0 0 A) (F0 m 318 ls []) := by
                          intro H locs ls hP hD hS hl
                          obtain rfl := Option.some.inj hF
                          exact J309 _ _ _ hP hD hS (lv_sub hl [0, 1, 2, 3, 4, 5, 6, 7, 8, 9, 10, 11, 12, 13, 14, 15] rfl)
                        clear hF
                        have hF := hy378
                        clear hy378
                        refine lv_if_eq (tgt := 225) hx hb dX9_guess_212 (by decide) (fun c379 => ?_) (fun c379 => ?_)
                        · rw [if_pos c379] at hF
                          refine lv_iload hx hb dX9_guess_225 (lv_at hl 15 rfl) ?_
                          refine lv_iconst (v := (4 : Int32)) hx hb dX9_guess_227 (by decide) ?_
                          obtain ⟨y380, hy380, hF⟩ := bnd_some hF
                          have J380 : ∀ (H : Heap) (locs : List Loc) (ls : Array Slot), va_P D classes (wld ct ad G y380) H → va_D A (wld ct ad G y380) → va_S A s.heap H locs → lv_has ls 16 [(15, .int x21), (14, .int y16), (13, .int y14), (12, .int y12), (11, .int y10.1), (10, .int y6.2), (9, .int y4.2), (8, .int y2.2), (7, .int y1.2), (0, .ref (ad a)), (1, .int p0), (2, .int p1), (3, .int p2), (4, .int p3), (5, .int p4), (6, .int p5)] → W p l e (headSpec wuX9_guess ({ frames := 1, cells := 0, slots := 0, locals := 34 })).room s m ([.ref (ad a), .int p0, .int p1, .int p2, .int p3, .int p4, .int p5] : List Value).toArray below meth c H locs 0 0 (MQ below (va_Qv (fun (_ : Unit) => True) (fun _ t => kE D ct ad G A y t) A) ([.ref (ad a), .int p0, .int p1, .int p2, .int p3, .int p4, .int p5] : List Value).toArray s 0 0 A) (F0 m 318 ls []) := by
                            intro H locs ls hP hD hS hl
                            obtain rfl := Option.some.inj hF
                            exact J378 _ _ _ hP hD hS (lv_sub hl [0, 1, 2, 3, 4, 5, 6, 7, 8, 9, 10, 11, 12, 13, 14, 15] rfl)
                          clear hF
                          have hF := hy380
                          clear hy380
                          refine lv_icmp_ne (tgt := 246) hx hb dX9_guess_228 (by decide) (fun c381 => ?_) (fun c381 => ?_)
                          · rw [if_neg c381] at hF
                            refine lv_iload hx hb dX9_guess_246 (lv_at hl 5 rfl) ?_
                            obtain ⟨y382, hy382, hF⟩ := bnd_some hF
                            have J382 : ∀ (H : Heap) (locs : List Loc) (ls : Array Slot), va_P D classes (wld ct ad G y382) H → va_D A (wld ct ad G y382) → va_S A s.heap H locs → lv_has ls 16 [(15, .int x21), (14, .int y16), (13, .int y14), (12, .int y12), (11, .int y10.1), (10, .int y6.2), (9, .int y4.2), (8, .int y2.2), (7, .int y1.2), (0, .ref (ad a)), (1, .int p0), (2, .int p1), (3, .int p2), (4, .int p3), (5, .int p4), (6, .int p5)] → W p l e (headSpec wuX9_guess ({ frames := 1, cells := 0, slots := 0, locals := 34 })).room s m ([.ref (ad a), .int p0, .int p1, .int p2, .int p3, .int p4, .int p5] : List Value).toArray below meth c H locs 0 0 (MQ below (va_Qv (fun (_ : Unit) => True) (fun _ t => kE D ct ad G A y t) A) ([.ref (ad a), .int p0, .int p1, .int p2, .int p3, .int p4, .int p5] : List Value).toArray s 0 0 A) (F0 m 318 ls []) := by
                              intro H locs ls hP hD hS hl
                              obtain rfl := Option.some.inj hF
                              exact J380 _ _ _ hP hD hS (lv_sub hl [0, 1, 2, 3, 4, 5, 6, 7, 8, 9, 10, 11, 12, 13, 14, 15] rfl)
                            clear hF
                            have hF := hy382
                            clear hy382
                            refine lv_if_ge (tgt := 271) hx hb dX9_guess_248 (by decide) (fun c383 => ?_) (fun c383 => ?_)
                            · rw [if_pos c383] at hF
                              refine lv_iload hx hb dX9_guess_271 (lv_at hl 0 rfl) ?_
                              refine lv_iconst (v := (1 : Int32)) hx hb dX9_guess_273 (by decide) ?_
                              obtain ⟨y384, hy384, hF⟩ := bnd_some hF
                              have J384 : ∀ (H : Heap) (locs : List Loc) (ls : Array Slot), va_P D classes (wld ct ad G y384) H → va_D A (wld ct ad G y384) → va_S A s.heap H locs → lv_has ls 16 [(15, .int x21), (14, .int y16), (13, .int y14), (12, .int y12), (11, .int y10.1), (10, .int y6.2), (9, .int y4.2), (8, .int y2.2), (7, .int y1.2), (0, .ref (ad a)), (1, .int p0), (2, .int p1), (3, .int p2), (4, .int p3), (5, .int p4), (6, .int p5)] → W p l e (headSpec wuX9_guess ({ frames := 1, cells := 0, slots := 0, locals := 34 })).room s m ([.ref (ad a), .int p0, .int p1, .int p2, .int p3, .int p4, .int p5] : List Value).toArray below meth c H locs 0 0 (MQ below (va_Qv (fun (_ : Unit) => True) (fun _ t => kE D ct ad G A y t) A) ([.ref (ad a), .int p0, .int p1, .int p2, .int p3, .int p4, .int p5] : List Value).toArray s 0 0 A) (F0 m 318 ls []) := by
                                intro H locs ls hP hD hS hl
                                obtain rfl := Option.some.inj hF
                                exact J382 _ _ _ hP hD hS (lv_sub hl [0, 1, 2, 3, 4, 5, 6, 7, 8, 9, 10, 11, 12, 13, 14, 15] rfl)
                              clear hF
                              have hF := hy384
                              clear hy384
                              refine lv_icmp_ne (tgt := 307) hx hb dX9_guess_274 (by decide) (fun c385 => ?_) (fun c385 => ?_)
                              · rw [if_neg c385] at hF
                                refine lv_aload_n hx hb dX9_guess_307 rfl (lv_at hl 9 rfl) ?_
                                refine lv_iload_n hx hb dX9_guess_308 rfl (lv_at hl 11 rfl) ?_
                                refine lv_iload hx hb dX9_guess_309 (lv_at hl 6 rfl) ?_
                                refine lv_iload hx hb dX9_guess_311 (lv_at hl 5 rfl) ?_
                                refine lv_iload hx hb dX9_guess_313 (lv_at hl 4 rfl) ?_
                                obtain ⟨y386, hy386, hF⟩ := bnd_some hF
                                have hf9 := wA_in hD hA9 hS
                                refine va_callv (va_runV (As := [.int p1, .int y4.2, .int y6.2, .int y10.1]) (rest := []) ⟨hx, hb, hml, hown, hts⟩ (kX9_adoptMedian l D ct ad Z G y15.1 H.size a p1 y4.2 y6.2 y10.1 y386 hc hk hy386) (cwV 4 hts gX9_guess_X9_adoptMedian rfl rfl rfl (by decide +kernel) ⟨Nat.le_of_ble_eq_true rfl, Nat.le_of_ble_eq_true rfl⟩) ⟨fun a U g mk q => by obtain ⟨q0, q1, qP, qK, qD, qZ, qN⟩ := q; exact ⟨q0, q1, qP, va_K.moved (u := U) (U := U.calling g mk a) (Vm.Alike.refl U.vm) qK, qD, sF.moved (u := U) (U := U.calling g mk a) (Vm.Alike.refl U.vm) qZ, nF.same rfl qN⟩, va_recv hK hP (ci := 9) (q0 := a) rfl (wld_o ct ad G y15.1 hc hk (by decide)), fun U hU hW => ⟨rfl, by rw [hU], by rw [hU]; exact hP, va_K.moved hW.alike hK, hD.weaken (fun _ _ _ _ => trivial), by rw [hU]; exact ((hZ.kept hS.2.1).narrow hf9).moved hW.alike, hN.warm hW⟩⟩ rfl rfl hl.1 rfl (lv_room (Nat.le_of_ble_eq_true rfl)) dX9_guess_315 ⟨(Nat.zero_le _), (Nat.zero_le _)⟩) hS (fun q _ h => hf9 q h) hf9 (fun u t H locs ht hvm hw hB hz1 hk1 hS => ?_)
                                obtain ⟨hP, hK9, hD9⟩ := hB
                                rw [ht] at hP
                                have hD := hD9.weaken (fun _ q _ h => hf9 q.1 h)
                                obtain rfl := Option.some.inj hF
                                exact J384 _ _ _ hP hD hS (lv_sub hl [0, 1, 2, 3, 4, 5, 6, 7, 8, 9, 10, 11, 12, 13, 14, 15] rfl)
                              · rw [if_pos c385] at hF
                                refine lv_aload_n hx hb dX9_guess_277 rfl (lv_at hl 9 rfl) ?_
                                refine lv_iload_n hx hb dX9_guess_278 rfl (lv_at hl 11 rfl) ?_
                                refine lv_iload hx hb dX9_guess_279 (lv_at hl 3 rfl) ?_
                                obtain ⟨y387, hy387, hF⟩ := bnd_some hF
                                have J387 : ∀ (H : Heap) (locs : List Loc) (ls : Array Slot), va_P D classes (wld ct ad G y15.1) H → va_D A (wld ct ad G y15.1) → va_S A s.heap H locs → lv_has ls 16 [(15, .int x21), (14, .int y16), (13, .int y14), (12, .int y12), (11, .int y10.1), (10, .int y6.2), (9, .int y4.2), (8, .int y2.2), (7, .int y1.2), (0, .ref (ad a)), (1, .int p0), (2, .int p1), (3, .int p2), (4, .int p3), (5, .int p4), (6, .int p5)] → W p l e (headSpec wuX9_guess ({ frames := 1, cells := 0, slots := 0, locals := 34 })).room s m ([.ref (ad a), .int p0, .int p1, .int p2, .int p3, .int p4, .int p5] : List Value).toArray below meth c H locs 0 0 (MQ below (va_Qv (fun (_ : Unit) => True) (fun _ t => kE D ct ad G A y t) A) ([.ref (ad a), .int p0, .int p1, .int p2, .int p3, .int p4, .int p5] : List Value).toArray s 0 0 A) (F0 m 301 ls [.int y387, .int p1, .ref (ad a)]) := by
                                  intro H locs ls hP hD hS hl
                                  obtain ⟨y388, hy388, hF⟩ := bnd_some hF
                                  have hf9 := wA_in hD hA9 hS
                                  refine va_callv (va_runV (As := [.int p1, .int y387]) (rest := []) ⟨hx, hb, hml, hown, hts⟩ (kX9_adopt l D ct ad Z G y15.1 H.size a p1 y387 y388 hc hk hy388) (cwV 2 hts gX9_guess_X9_adopt rfl rfl rfl (by decide +kernel) ⟨Nat.le_of_ble_eq_true rfl, Nat.le_of_ble_eq_true rfl⟩) ⟨fun a U g mk q => by obtain ⟨q0, q1, qP, qK, qD, qZ, qN⟩ := q; exact ⟨q0, q1, qP, va_K.moved (u := U) (U := U.calling g mk a) (Vm.Alike.refl U.vm) qK, qD, sF.moved (u := U) (U := U.calling g mk a) (Vm.Alike.refl U.vm) qZ, nF.same rfl qN⟩, va_recv hK hP (ci := 9) (q0 := a) rfl (wld_o ct ad G y15.1 hc hk (by decide)), fun U hU hW => ⟨rfl, by rw [hU], by rw [hU]; exact hP, va_K.moved hW.alike hK, hD.weaken (fun _ _ _ _ => trivial), by rw [hU]; exact ((hZ.kept hS.2.1).narrow hf9).moved hW.alike, hN.warm hW⟩⟩ rfl rfl hl.1 rfl (lv_room (Nat.le_of_ble_eq_true rfl)) dX9_guess_301 ⟨(Nat.zero_le _), (Nat.zero_le _)⟩) hS (fun q _ h => hf9 q h) hf9 (fun u t H locs ht hvm hw hB hz1 hk1 hS => ?_)
                                  obtain ⟨hP, hK9, hD9⟩ := hB
                                  rw [ht] at hP
                                  have hD := hD9.weaken (fun _ q _ h => hf9 q.1 h)
                                  refine lv_goto (tgt := 318) hx hb dX9_guess_304 (by decide) ?_
                                  obtain rfl := Option.some.inj hF
                                  exact J384 _ _ _ hP hD hS (lv_sub hl [0, 1, 2, 3, 4, 5, 6, 7, 8, 9, 10, 11, 12, 13, 14, 15] rfl)
                                clear hF
                                have hF := hy387
                                clear hy387
                                refine lv_if_eq (tgt := 289) hx hb dX9_guess_281 (by decide) (fun c389 => ?_) (fun c389 => ?_)
                                · rw [if_pos c389] at hF
                                  refine lv_iload hx hb dX9_guess_289 (lv_at hl 2 rfl) ?_
                                  obtain ⟨y390, hy390, hF⟩ := bnd_some hF
                                  have J390 : ∀ (H : Heap) (locs : List Loc) (ls : Array Slot), va_P D classes (wld ct ad G y15.1) H → va_D A (wld ct ad G y15.1) → va_S A s.heap H locs → lv_has ls 16 [(15, .int x21), (14, .int y16), (13, .int y14), (12, .int y12), (11, .int y10.1), (10, .int y6.2), (9, .int y4.2), (8, .int y2.2), (7, .int y1.2), (0, .ref (ad a)), (1, .int p0), (2, .int p1), (3, .int p2), (4, .int p3), (5, .int p4), (6, .int p5)] → W p l e (headSpec wuX9_guess ({ frames := 1, cells := 0, slots := 0, locals := 34 })).room s m ([.ref (ad a), .int p0, .int p1, .int p2, .int p3, .int p4, .int p5] : List Value).toArray below meth c H locs 0 0 (MQ below (va_Qv (fun (_ : Unit) => True) (fun _ t => kE D ct ad G A y t) A) ([.ref (ad a), .int p0, .int p1, .int p2, .int p3, .int p4, .int p5] : List Value).toArray s 0 0 A) (F0 m 301 ls [.int y390, .int p1, .ref (ad a)]) := by
                                    intro H locs ls hP hD hS hl
                                    obtain rfl := Option.some.inj hF
                                    exact J387 _ _ _ hP hD hS (lv_sub hl [0, 1, 2, 3, 4, 5, 6, 7, 8, 9, 10, 11, 12, 13, 14, 15] rfl)
                                  clear hF
                                  have hF := hy390
                                  clear hy390
                                  refine lv_if_eq (tgt := 299) hx hb dX9_guess_291 (by decide) (fun c391 => ?_) (fun c391 => ?_)
                                  · rw [if_pos c391] at hF
                                    refine lv_iload hx hb dX9_guess_299 (lv_at hl 4 rfl) ?_
                                    obtain rfl := Option.some.inj hF
                                    exact J390 _ _ _ hP hD hS (lv_sub hl [0, 1, 2, 3, 4, 5, 6, 7, 8, 9, 10, 11, 12, 13, 14, 15] rfl)
                                  · rw [if_neg c391] at hF
                                    refine lv_iload hx hb dX9_guess_294 (lv_at hl 5 rfl) ?_
                                    refine lv_goto (tgt := 301) hx hb dX9_guess_296 (by decide) ?_
                                    obtain rfl := Option.some.inj hF
                                    exact J390 _ _ _ hP hD hS (lv_sub hl [0, 1, 2, 3, 4, 5, 6, 7, 8, 9, 10, 11, 12, 13, 14, 15] rfl)
                                · rw [if_neg c389] at hF
                                  refine lv_iload hx hb dX9_guess_284 (lv_at hl 6 rfl) ?_
                                  refine lv_goto (tgt := 301) hx hb dX9_guess_286 (by decide) ?_
                                  obtain rfl := Option.some.inj hF
                                  exact J387 _ _ _ hP hD hS (lv_sub hl [0, 1, 2, 3, 4, 5, 6, 7, 8, 9, 10, 11, 12, 13, 14, 15] rfl)
                            · rw [if_neg c383] at hF
                              refine lv_iload hx hb dX9_guess_251 (lv_at hl 4 rfl) ?_
                              obtain ⟨y392, hy392, hF⟩ := bnd_some hF
                              have J392 : ∀ (H : Heap) (locs : List Loc) (ls : Array Slot), va_P D classes (wld ct ad G y392) H → va_D A (wld ct ad G y392) → va_S A s.heap H locs → lv_has ls 16 [(15, .int x21), (14, .int y16), (13, .int y14), (12, .int y12), (11, .int y10.1), (10, .int y6.2), (9, .int y4.2), (8, .int y2.2), (7, .int y1.2), (0, .ref (ad a)), (1, .int p0), (2, .int p1), (3, .int p2), (4, .int p3), (5, .int p4), (6, .int p5)] → W p l e (headSpec wuX9_guess ({ frames := 1, cells := 0, slots := 0, locals := 34 })).room s m ([.ref (ad a), .int p0, .int p1, .int p2, .int p3, .int p4, .int p5] : List Value).toArray below meth c H locs 0 0 (MQ below (va_Qv (fun (_ : Unit) => True) (fun _ t => kE D ct ad G A y t) A) ([.ref (ad a), .int p0, .int p1, .int p2, .int p3, .int p4, .int p5] : List Value).toArray s 0 0 A) (F0 m 318 ls []) := by
                                intro H locs ls hP hD hS hl
                                obtain rfl := Option.some.inj hF
                                exact J382 _ _ _ hP hD hS (lv_sub hl [0, 1, 2, 3, 4, 5, 6, 7, 8, 9, 10, 11, 12, 13, 14, 15] rfl)
                              clear hF
                              have hF := hy392
                              clear hy392
                              refine lv_if_ge (tgt := 271) hx hb dX9_guess_253 (by decide) (fun c393 => ?_) (fun c393 => ?_)
                              · rw [if_pos c393] at hF
                                refine lv_iload hx hb dX9_guess_271 (lv_at hl 0 rfl) ?_
                                refine lv_iconst (v := (1 : Int32)) hx hb dX9_guess_273 (by decide) ?_
                                obtain ⟨y394, hy394, hF⟩ := bnd_some hF
                                have J394 : ∀ (H : Heap) (locs : List Loc) (ls : Array Slot), va_P D classes (wld ct ad G y394) H → va_D A (wld ct ad G y394) → va_S A s.heap H locs → lv_has ls 16 [(15, .int x21), (14, .int y16), (13, .int y14), (12, .int y12), (11, .int y10.1), (10, .int y6.2), (9, .int y4.2), (8, .int y2.2), (7, .int y1.2), (0, .ref (ad a)), (1, .int p0), (2, .int p1), (3, .int p2), (4, .int p3), (5, .int p4), (6, .int p5)] → W p l e (headSpec wuX9_guess ({ frames := 1, cells := 0, slots := 0, locals := 34 })).room s m ([.ref (ad a), .int p0, .int p1, .int p2, .int p3, .int p4, .int p5] : List Value).toArray below meth c H locs 0 0 (MQ below (va_Qv (fun (_ : Unit) => True) (fun _ t => kE D ct ad G A y t) A) ([.ref (ad a), .int p0, .int p1, .int p2, .int p3, .int p4, .int p5] : List Value).toArray s 0 0 A) (F0 m 318 ls []) := by
                                  intro H locs ls hP hD hS hl
                                  obtain rfl := Option.some.inj hF
                                  exact J392 _ _ _ hP hD hS (lv_sub hl [0, 1, 2, 3, 4, 5, 6, 7, 8, 9, 10, 11, 12, 13, 14, 15] rfl)
                                clear hF
                                have hF := hy394
                                clear hy394
                                refine lv_icmp_ne (tgt := 307) hx hb dX9_guess_274 (by decide) (fun c395 => ?_) (fun c395 => ?_)
                                · rw [if_neg c395] at hF
                                  refine lv_aload_n hx hb dX9_guess_307 rfl (lv_at hl 9 rfl) ?_
                                  refine lv_iload_n hx hb dX9_guess_308 rfl (lv_at hl 11 rfl) ?_
                                  refine lv_iload hx hb dX9_guess_309 (lv_at hl 6 rfl) ?_
                                  refine lv_iload hx hb dX9_guess_311 (lv_at hl 5 rfl) ?_
                                  refine lv_iload hx hb dX9_guess_313 (lv_at hl 4 rfl) ?_
                                  obtain ⟨y396, hy396, hF⟩ := bnd_some hF
                                  have hf9 := wA_in hD hA9 hS
                                  refine va_callv (va_runV (As := [.int p1, .int y4.2, .int y6.2, .int y10.1]) (rest := []) ⟨hx, hb, hml, hown, hts⟩ (kX9_adoptMedian l D ct ad Z G y15.1 H.size a p1 y4.2 y6.2 y10.1 y396 hc hk hy396) (cwV 4 hts gX9_guess_X9_adoptMedian rfl rfl rfl (by decide +kernel) ⟨Nat.le_of_ble_eq_true rfl, Nat.le_of_ble_eq_true rfl⟩) ⟨fun a U g mk q => by obtain ⟨q0, q1, qP, qK, qD, qZ, qN⟩ := q; exact ⟨q0, q1, qP, va_K.moved (u := U) (U := U.calling g mk a) (Vm.Alike.refl U.vm) qK, qD, sF.moved (u := U) (U := U.calling g mk a) (Vm.Alike.refl U.vm) qZ, nF.same rfl qN⟩, va_recv hK hP (ci := 9) (q0 := a) rfl (wld_o ct ad G y15.1 hc hk (by decide)), fun U hU hW => ⟨rfl, by rw [hU], by rw [hU]; exact hP, va_K.moved hW.alike hK, hD.weaken (fun _ _ _ _ => trivial), by rw [hU]; exact ((hZ.kept hS.2.1).narrow hf9).moved hW.alike, hN.warm hW⟩⟩ rfl rfl hl.1 rfl (lv_room (Nat.le_of_ble_eq_true rfl)) dX9_guess_315 ⟨(Nat.zero_le _), (Nat.zero_le _)⟩) hS (fun q _ h => hf9 q h) hf9 (fun u t H locs ht hvm hw hB hz1 hk1 hS => ?_)
                                  obtain ⟨hP, hK9, hD9⟩ := hB
                                  rw [ht] at hP
                                  have hD := hD9.weaken (fun _ q _ h => hf9 q.1 h)
                                  obtain rfl := Option.some.inj hF
                                  exact J394 _ _ _ hP hD hS (lv_sub hl [0, 1, 2, 3, 4, 5, 6, 7, 8, 9, 10, 11, 12, 13, 14, 15] rfl)
                                · rw [if_pos c395] at hF
                                  refine lv_aload_n hx hb dX9_guess_277 rfl (lv_at hl 9 rfl) ?_
                                  refine lv_iload_n hx hb dX9_guess_278 rfl (lv_at hl 11 rfl) ?_
                                  refine lv_iload hx hb dX9_guess_279 (lv_at hl 3 rfl) ?_
                                  obtain ⟨y397, hy397, hF⟩ := bnd_some hF
                                  have J397 : ∀ (H : Heap) (locs : List Loc) (ls : Array Slot), va_P D classes (wld ct ad G y15.1) H → va_D A (wld ct ad G y15.1) → va_S A s.heap H locs → lv_has ls 16 [(15, .int x21), (14, .int y16), (13, .int y14), (12, .int y12), (11, .int y10.1), (10, .int y6.2), (9, .int y4.2), (8, .int y2.2), (7, .int y1.2), (0, .ref (ad a)), (1, .int p0), (2, .int p1), (3, .int p2), (4, .int p3), (5, .int p4), (6, .int p5)] → W p l e (headSpec wuX9_guess ({ frames := 1, cells := 0, slots := 0, locals := 34 })).room s m ([.ref (ad a), .int p0, .int p1, .int p2, .int p3, .int p4, .int p5] : List Value).toArray below meth c H locs 0 0 (MQ below (va_Qv (fun (_ : Unit) => True) (fun _ t => kE D ct ad G A y t) A) ([.ref (ad a), .int p0, .int p1, .int p2, .int p3, .int p4, .int p5] : List Value).toArray s 0 0 A) (F0 m 301 ls [.int y397, .int p1, .ref (ad a)]) := by
                                    intro H locs ls hP hD hS hl
                                    obtain ⟨y398, hy398, hF⟩ := bnd_some hF
                                    have hf9 := wA_in hD hA9 hS
                                    refine va_callv (va_runV (As := [.int p1, .int y397]) (rest := []) ⟨hx, hb, hml, hown, hts⟩ (kX9_adopt l D ct ad Z G y15.1 H.size a p1 y397 y398 hc hk hy398) (cwV 2 hts gX9_guess_X9_adopt rfl rfl rfl (by decide +kernel) ⟨Nat.le_of_ble_eq_true rfl, Nat.le_of_ble_eq_true rfl⟩) ⟨fun a U g mk q => by obtain ⟨q0, q1, qP, qK, qD, qZ, qN⟩ := q; exact ⟨q0, q1, qP, va_K.moved (u := U) (U := U.calling g mk a) (Vm.Alike.refl U.vm) qK, qD, sF.moved (u := U) (U := U.calling g mk a) (Vm.Alike.refl U.vm) qZ, nF.same rfl qN⟩, va_recv hK hP (ci := 9) (q0 := a) rfl (wld_o ct ad G y15.1 hc hk (by decide)), fun U hU hW => ⟨rfl, by rw [hU], by rw [hU]; exact hP, va_K.moved hW.alike hK, hD.weaken (fun _ _ _ _ => trivial), by rw [hU]; exact ((hZ.kept hS.2.1).narrow hf9).moved hW.alike, hN.warm hW⟩⟩ rfl rfl hl.1 rfl (lv_room (Nat.le_of_ble_eq_true rfl)) dX9_guess_301 ⟨(Nat.zero_le _), (Nat.zero_le _)⟩) hS (fun q _ h => hf9 q h) hf9 (fun u t H locs ht hvm hw hB hz1 hk1 hS => ?_)
                                    obtain ⟨hP, hK9, hD9⟩ := hB
                                    rw [ht] at hP
                                    have hD := hD9.weaken (fun _ q _ h => hf9 q.1 h)
                                    refine lv_goto (tgt := 318) hx hb dX9_guess_304 (by decide) ?_
                                    obtain rfl := Option.some.inj hF
                                    exact J394 _ _ _ hP hD hS (lv_sub hl [0, 1, 2, 3, 4, 5, 6, 7, 8, 9, 10, 11, 12, 13, 14, 15] rfl)
                                  clear hF
                                  have hF := hy397
                                  clear hy397
                                  refine lv_if_eq (tgt := 289) hx hb dX9_guess_281 (by decide) (fun c399 => ?_) (fun c399 => ?_)
                                  · rw [if_pos c399] at hF
                                    refine lv_iload hx hb dX9_guess_289 (lv_at hl 2 rfl) ?_
                                    obtain ⟨y400, hy400, hF⟩ := bnd_some hF
                                    have J400 : ∀ (H : Heap) (locs : List Loc) (ls : Array Slot), va_P D classes (wld ct ad G y15.1) H → va_D A (wld ct ad G y15.1) → va_S A s.heap H locs → lv_has ls 16 [(15, .int x21), (14, .int y16), (13, .int y14), (12, .int y12), (11, .int y10.1), (10, .int y6.2), (9, .int y4.2), (8, .int y2.2), (7, .int y1.2), (0, .ref (ad a)), (1, .int p0), (2, .int p1), (3, .int p2), (4, .int p3), (5, .int p4), (6, .int p5)] → W p l e (headSpec wuX9_guess ({ frames := 1, cells := 0, slots := 0, locals := 34 })).room s m ([.ref (ad a), .int p0, .int p1, .int p2, .int p3, .int p4, .int p5] : List Value).toArray below meth c H locs 0 0 (MQ below (va_Qv (fun (_ : Unit) => True) (fun _ t => kE D ct ad G A y t) A) ([.ref (ad a), .int p0, .int p1, .int p2, .int p3, .int p4, .int p5] : List Value).toArray s 0 0 A) (F0 m 301 ls [.int y400, .int p1, .ref (ad a)]) := by
                                      intro H locs ls hP hD hS hl
                                      obtain rfl := Option.some.inj hF
                                      exact J397 _ _ _ hP hD hS (lv_sub hl [0, 1, 2, 3, 4, 5, 6, 7, 8, 9, 10, 11, 12, 13, 14, 15] rfl)
                                    clear hF
                                    have hF := hy400
                                    clear hy400
                                    refine lv_if_eq (tgt := 299) hx hb dX9_guess_291 (by decide) (fun c401 => ?_) (fun c401 => ?_)
                                    · rw [if_pos c401] at hF
                                      refine lv_iload hx hb dX9_guess_299 (lv_at hl 4 rfl) ?_
                                      obtain rfl := Option.some.inj hF
                                      exact J400 _ _ _ hP hD hS (lv_sub hl [0, 1, 2, 3, 4, 5, 6, 7, 8, 9, 10, 11, 12, 13, 14, 15] rfl)
                                    · rw [if_neg c401] at hF
                                      refine lv_iload hx hb dX9_guess_294 (lv_at hl 5 rfl) ?_
                                      refine lv_goto (tgt := 301) hx hb dX9_guess_296 (by decide) ?_
                                      obtain rfl := Option.some.inj hF
                                      exact J400 _ _ _ hP hD hS (lv_sub hl [0, 1, 2, 3, 4, 5, 6, 7, 8, 9, 10, 11, 12, 13, 14, 15] rfl)
                                  · rw [if_neg c399] at hF
                                    refine lv_iload hx hb dX9_guess_284 (lv_at hl 6 rfl) ?_
                                    refine lv_goto (tgt := 301) hx hb dX9_guess_286 (by decide) ?_
                                    obtain rfl := Option.some.inj hF
                                    exact J397 _ _ _ hP hD hS (lv_sub hl [0, 1, 2, 3, 4, 5, 6, 7, 8, 9, 10, 11, 12, 13, 14, 15] rfl)
                              · rw [if_neg c393] at hF
                                refine lv_iload hx hb dX9_guess_256 (lv_at hl 6 rfl) ?_
                                obtain ⟨y402, hy402, hF⟩ := bnd_some hF
                                have J402 : ∀ (H : Heap) (locs : List Loc) (ls : Array Slot), va_P D classes (wld ct ad G y402) H → va_D A (wld ct ad G y402) → va_S A s.heap H locs → lv_has ls 16 [(15, .int x21), (14, .int y16), (13, .int y14), (12, .int y12), (11, .int y10.1), (10, .int y6.2), (9, .int y4.2), (8, .int y2.2), (7, .int y1.2), (0, .ref (ad a)), (1, .int p0), (2, .int p1), (3, .int p2), (4, .int p3), (5, .int p4), (6, .int p5)] → W p l e (headSpec wuX9_guess ({ frames := 1, cells := 0, slots := 0, locals := 34 })).room s m ([.ref (ad a), .int p0, .int p1, .int p2, .int p3, .int p4, .int p5] : List Value).toArray below meth c H locs 0 0 (MQ below (va_Qv (fun (_ : Unit) => True) (fun _ t => kE D ct ad G A y t) A) ([.ref (ad a), .int p0, .int p1, .int p2, .int p3, .int p4, .int p5] : List Value).toArray s 0 0 A) (F0 m 318 ls []) := by
                                  intro H locs ls hP hD hS hl
                                  obtain rfl := Option.some.inj hF
                                  exact J392 _ _ _ hP hD hS (lv_sub hl [0, 1, 2, 3, 4, 5, 6, 7, 8, 9, 10, 11, 12, 13, 14, 15] rfl)
                                clear hF
                                have hF := hy402
                                clear hy402
                                refine lv_if_lt (tgt := 271) hx hb dX9_guess_258 (by decide) (fun c403 => ?_) (fun c403 => ?_)
                                · rw [if_pos c403] at hF
                                  refine lv_iload hx hb dX9_guess_271 (lv_at hl 0 rfl) ?_
                                  refine lv_iconst (v := (1 : Int32)) hx hb dX9_guess_273 (by decide) ?_
                                  obtain ⟨y404, hy404, hF⟩ := bnd_some hF
                                  have J404 : ∀ (H : Heap) (locs : List Loc) (ls : Array Slot), va_P D classes (wld ct ad G y404) H → va_D A (wld ct ad G y404) → va_S A s.heap H locs → lv_has ls 16 [(15, .int x21), (14, .int y16), (13, .int y14), (12, .int y12), (11, .int y10.1), (10, .int y6.2), (9, .int y4.2), (8, .int y2.2), (7, .int y1.2), (0, .ref (ad a)), (1, .int p0), (2, .int p1), (3, .int p2), (4, .int p3), (5, .int p4), (6, .int p5)] → W p l e (headSpec wuX9_guess ({ frames := 1, cells := 0, slots := 0, locals := 34 })).room s m ([.ref (ad a), .int p0, .int p1, .int p2, .int p3, .int p4, .int p5] : List Value).toArray below meth c H locs 0 0 (MQ below (va_Qv (fun (_ : Unit) => True) (fun _ t => kE D ct ad G A y t) A) ([.ref (ad a), .int p0, .int p1, .int p2, .int p3, .int p4, .int p5] : List Value).toArray s 0 0 A) (F0 m 318 ls []) := by
                                    intro H locs ls hP hD hS hl
                                    obtain rfl := Option.some.inj hF
                                    exact J402 _ _ _ hP hD hS (lv_sub hl [0, 1, 2, 3, 4, 5, 6, 7, 8, 9, 10, 11, 12, 13, 14, 15] rfl)
                                  clear hF
                                  have hF := hy404
                                  clear hy404
                                  refine lv_icmp_ne (tgt := 307) hx hb dX9_guess_274 (by decide) (fun c405 => ?_) (fun c405 => ?_)
                                  · rw [if_neg c405] at hF
                                    refine lv_aload_n hx hb dX9_guess_307 rfl (lv_at hl 9 rfl) ?_
                                    refine lv_iload_n hx hb dX9_guess_308 rfl (lv_at hl 11 rfl) ?_
                                    refine lv_iload hx hb dX9_guess_309 (lv_at hl 6 rfl) ?_
                                    refine lv_iload hx hb dX9_guess_311 (lv_at hl 5 rfl) ?_
                                    refine lv_iload hx hb dX9_guess_313 (lv_at hl 4 rfl) ?_
                                    obtain ⟨y406, hy406, hF⟩ := bnd_some hF
                                    have hf9 := wA_in hD hA9 hS
                                    refine va_callv (va_runV (As := [.int p1, .int y4.2, .int y6.2, .int y10.1]) (rest := []) ⟨hx, hb, hml, hown, hts⟩ (kX9_adoptMedian l D ct ad Z G y15.1 H.size a p1 y4.2 y6.2 y10.1 y406 hc hk hy406) (cwV 4 hts gX9_guess_X9_adoptMedian rfl rfl rfl (by decide +kernel) ⟨Nat.le_of_ble_eq_true rfl, Nat.le_of_ble_eq_true rfl⟩) ⟨fun a U g mk q => by obtain ⟨q0, q1, qP, qK, qD, qZ, qN⟩ := q; exact ⟨q0, q1, qP, va_K.moved (u := U) (U := U.calling g mk a) (Vm.Alike.refl U.vm) qK, qD, sF.moved (u := U) (U := U.calling g mk a) (Vm.Alike.refl U.vm) qZ, nF.same rfl qN⟩, va_recv hK hP (ci := 9) (q0 := a) rfl (wld_o ct ad G y15.1 hc hk (by decide)), fun U hU hW => ⟨rfl, by rw [hU], by rw [hU]; exact hP, va_K.moved hW.alike hK, hD.weaken (fun _ _ _ _ => trivial), by rw [hU]; exact ((hZ.kept hS.2.1).narrow hf9).moved hW.alike, hN.warm hW⟩⟩ rfl rfl hl.1 rfl (lv_room (Nat.le_of_ble_eq_true rfl)) dX9_guess_315 ⟨(Nat.zero_le _), (Nat.zero_le _)⟩) hS (fun q _ h => hf9 q h) hf9 (fun u t H locs ht hvm hw hB hz1 hk1 hS => ?_)
                                    obtain ⟨hP, hK9, hD9⟩ := hB
                                    rw [ht] at hP
                                    have hD := hD9.weaken (fun _ q _ h => hf9 q.1 h)
                                    obtain rfl := Option.some.inj hF
                                    exact J404 _ _ _ hP hD hS (lv_sub hl [0, 1, 2, 3, 4, 5, 6, 7, 8, 9, 10, 11, 12, 13, 14, 15] rfl)
                                  · rw [if_pos c405] at hF
                                    refine lv_aload_n hx hb dX9_guess_277 rfl (lv_at hl 9 rfl) ?_
                                    refine lv_iload_n hx hb dX9_guess_278 rfl (lv_at hl 11 rfl) ?_
                                    refine lv_iload hx hb dX9_guess_279 (lv_at hl 3 rfl) ?_
                                    obtain ⟨y407, hy407, hF⟩ := bnd_some hF
                                    have J407 : ∀ (H : Heap) (locs : List Loc) (ls : Array Slot), va_P D classes (wld ct ad G y15.1) H → va_D A (wld ct ad G y15.1) → va_S A s.heap H locs → lv_has ls 16 [(15, .int x21), (14, .int y16), (13, .int y14), (12, .int y12), (11, .int y10.1), (10, .int y6.2), (9, .int y4.2), (8, .int y2.2), (7, .int y1.2), (0, .ref (ad a)), (1, .int p0), (2, .int p1), (3, .int p2), (4, .int p3), (5, .int p4), (6, .int p5)] → W p l e (headSpec wuX9_guess ({ frames := 1, cells := 0, slots := 0, locals := 34 })).room s m ([.ref (ad a), .int p0, .int p1, .int p2, .int p3, .int p4, .int p5] : List Value).toArray below meth c H locs 0 0 (MQ below (va_Qv (fun (_ : Unit) => True) (fun _ t => kE D ct ad G A y t) A) ([.ref (ad a), .int p0, .int p1, .int p2, .int p3, .int p4, .int p5] : List Value).toArray s 0 0 A) (F0 m 301 ls [.int y407, .int p1, .ref (ad a)]) := by
                                      intro H locs ls hP hD hS hl
                                      obtain ⟨y408, hy408, hF⟩ := bnd_some hF
                                      have hf9 := wA_in hD hA9 hS
                                      refine va_callv (va_runV (As := [.int p1, .int y407]) (rest := []) ⟨hx, hb, hml, hown, hts⟩ (kX9_adopt l D ct ad Z G y15.1 H.size a p1 y407 y408 hc hk hy408) (cwV 2 hts gX9_guess_X9_adopt rfl rfl rfl (by decide +kernel) ⟨Nat.le_of_ble_eq_true rfl, Nat.le_of_ble_eq_true rfl⟩) ⟨fun a U g mk q => by obtain ⟨q0, q1, qP, qK, qD, qZ, qN⟩ := q; exact ⟨q0, q1, qP, va_K.moved (u := U) (U := U.calling g mk a) (Vm.Alike.refl U.vm) qK, qD, sF.moved (u := U) (U := U.calling g mk a) (Vm.Alike.refl U.vm) qZ, nF.same rfl qN⟩, va_recv hK hP (ci := 9) (q0 := a) rfl (wld_o ct ad G y15.1 hc hk (by decide)), fun U hU hW => ⟨rfl, by rw [hU], by rw [hU]; exact hP, va_K.moved hW.alike hK, hD.weaken (fun _ _ _ _ => trivial), by rw [hU]; exact ((hZ.kept hS.2.1).narrow hf9).moved hW.alike, hN.warm hW⟩⟩ rfl rfl hl.1 rfl (lv_room (Nat.le_of_ble_eq_true rfl)) dX9_guess_301 ⟨(Nat.zero_le _), (Nat.zero_le _)⟩) hS (fun q _ h => hf9 q h) hf9 (fun u t H locs ht hvm hw hB hz1 hk1 hS => ?_)
                                      obtain ⟨hP, hK9, hD9⟩ := hB
                                      rw [ht] at hP
                                      have hD := hD9.weaken (fun _ q _ h => hf9 q.1 h)
                                      refine lv_goto (tgt := 318) hx hb dX9_guess_304 (by decide) ?_
                                      obtain rfl := Option.some.inj hF
                                      exact J404 _ _ _ hP hD hS (lv_sub hl [0, 1, 2, 3, 4, 5, 6, 7, 8, 9, 10, 11, 12, 13, 14, 15] rfl)
                                    clear hF
                                    have hF := hy407
                                    clear hy407
                                    refine lv_if_eq (tgt := 289) hx hb dX9_guess_281 (by decide) (fun c409 => ?_) (fun c409 => ?_)
                                    · rw [if_pos c409] at hF
                                      refine lv_iload hx hb dX9_guess_289 (lv_at hl 2 rfl) ?_
                                      obtain ⟨y410, hy410, hF⟩ := bnd_some hF
                                      have J410 : ∀ (H : Heap) (locs : List Loc) (ls : Array Slot), va_P D classes (wld ct ad G y15.1) H → va_D A (wld ct ad G y15.1) → va_S A s.heap H locs → lv_has ls 16 [(15, .int x21), (14, .int y16), (13, .int y14), (12, .int y12), (11, .int y10.1), (10, .int y6.2), (9, .int y4.2), (8, .int y2.2), (7, .int y1.2), (0, .ref (ad a)), (1, .int p0), (2, .int p1), (3, .int p2), (4, .int p3), (5, .int p4), (6, .int p5)] → W p l e (headSpec wuX9_guess ({ frames := 1, cells := 0, slots := 0, locals := 34 })).room s m ([.ref (ad a), .int p0, .int p1, .int p2, .int p3, .int p4, .int p5] : List Value).toArray below meth c H locs 0 0 (MQ below (va_Qv (fun (_ : Unit) => True) (fun _ t => kE D ct ad G A y t) A) ([.ref (ad a), .int p0, .int p1, .int p2, .int p3, .int p4, .int p5] : List Value).toArray s 0 0 A) (F0 m 301 ls [.int y410, .int p1, .ref (ad a)]) := by
                                        intro H locs ls hP hD hS hl
                                        obtain rfl := Option.some.inj hF
                                        exact J407 _ _ _ hP hD hS (lv_sub hl [0, 1, 2, 3, 4, 5, 6, 7, 8, 9, 10, 11, 12, 13, 14, 15] rfl)
                                      clear hF
                                      have hF := hy410
                                      clear hy410
                                      refine lv_if_eq (tgt := 299) hx hb dX9_guess_291 (by decide) (fun c411 => ?_) (fun c411 => ?_)
                                      · rw [if_pos c411] at hF
                                        refine lv_iload hx hb dX9_guess_299 (lv_at hl 4 rfl) ?_
                                        obtain rfl := Option.some.inj hF
                                        exact J410 _ _ _ hP hD hS (lv_sub hl [0, 1, 2, 3, 4, 5, 6, 7, 8, 9, 10, 11, 12, 13, 14, 15] rfl)
                                      · rw [if_neg c411] at hF
                                        refine lv_iload hx hb dX9_guess_294 (lv_at hl 5 rfl) ?_
                                        refine lv_goto (tgt := 301) hx hb dX9_guess_296 (by decide) ?_
                                        obtain rfl := Option.some.inj hF
                                        exact J410 _ _ _ hP hD hS (lv_sub hl [0, 1, 2, 3, 4, 5, 6, 7, 8, 9, 10, 11, 12, 13, 14, 15] rfl)
                                    · rw [if_neg c409] at hF
                                      refine lv_iload hx hb dX9_guess_284 (lv_at hl 6 rfl) ?_
                                      refine lv_goto (tgt := 301) hx hb dX9_guess_286 (by decide) ?_
                                      obtain rfl := Option.some.inj hF
                                      exact J407 _ _ _ hP hD hS (lv_sub hl [0, 1, 2, 3, 4, 5, 6, 7, 8, 9, 10, 11, 12, 13, 14, 15] rfl)
                                · rw [if_neg c403] at hF
                                  refine lv_aload_n hx hb dX9_guess_261 rfl (lv_at hl 9 rfl) ?_
                                  refine lv_iload_n hx hb dX9_guess_262 rfl (lv_at hl 11 rfl) ?_
                                  refine lv_iload hx hb dX9_guess_263 (lv_at hl 6 rfl) ?_
                                  obtain ⟨y412, hy412, hF⟩ := bnd_some hF
                                  have hf9 := wA_in hD hA9 hS
                                  refine va_callv (va_runV (As := [.int p1, .int y4.2]) (rest := []) ⟨hx, hb, hml, hown, hts⟩ (kX9_adopt l D ct ad Z G y15.1 H.size a p1 y4.2 y412 hc hk hy412) (cwV 2 hts gX9_guess_X9_adopt rfl rfl rfl (by decide +kernel) ⟨Nat.le_of_ble_eq_true rfl, Nat.le_of_ble_eq_true rfl⟩) ⟨fun a U g mk q => by obtain ⟨q0, q1, qP, qK, qD, qZ, qN⟩ := q; exact ⟨q0, q1, qP, va_K.moved (u := U) (U := U.calling g mk a) (Vm.Alike.refl U.vm) qK, qD, sF.moved (u := U) (U := U.calling g mk a) (Vm.Alike.refl U.vm) qZ, nF.same rfl qN⟩, va_recv hK hP (ci := 9) (q0 := a) rfl (wld_o ct ad G y15.1 hc hk (by decide)), fun U hU hW => ⟨rfl, by rw [hU], by rw [hU]; exact hP, va_K.moved hW.alike hK, hD.weaken (fun _ _ _ _ => trivial), by rw [hU]; exact ((hZ.kept hS.2.1).narrow hf9).moved hW.alike, hN.warm hW⟩⟩ rfl rfl hl.1 rfl (lv_room (Nat.le_of_ble_eq_true rfl)) dX9_guess_265 ⟨(Nat.zero_le _), (Nat.zero_le _)⟩) hS (fun q _ h => hf9 q h) hf9 (fun u t H locs ht hvm hw hB hz1 hk1 hS => ?_)
                                  obtain ⟨hP, hK9, hD9⟩ := hB
                                  rw [ht] at hP
                                  have hD := hD9.weaken (fun _ q _ h => hf9 q.1 h)
                                  refine lv_goto (tgt := 318) hx hb dX9_guess_268 (by decide) ?_
                                  obtain rfl := Option.some.inj hF
                                  exact J402 _ _ _ hP hD hS (lv_sub hl [0, 1, 2, 3, 4, 5, 6, 7, 8, 9, 10, 11, 12, 13, 14, 15] rfl)
                          · rw [if_pos c381] at hF
                            refine lv_iload hx hb dX9_guess_231 (lv_at hl 1 rfl) ?_
                            obtain ⟨y413, hy413, hF⟩ := bnd_some hF
                            have J413 : ∀ (H : Heap) (locs : List Loc) (ls : Array Slot), va_P D classes (wld ct ad G y413) H → va_D A (wld ct ad G y413) → va_S A s.heap H locs → lv_has ls 16 [(15, .int x21), (14, .int y16), (13, .int y14), (12, .int y12), (11, .int y10.1), (10, .int y6.2), (9, .int y4.2), (8, .int y2.2), (7, .int y1.2), (0, .ref (ad a)), (1, .int p0), (2, .int p1), (3, .int p2), (4, .int p3), (5, .int p4), (6, .int p5)] → W p l e (headSpec wuX9_guess ({ frames := 1, cells := 0, slots := 0, locals := 34 })).room s m ([.ref (ad a), .int p0, .int p1, .int p2, .int p3, .int p4, .int p5] : List Value).toArray below meth c H locs 0 0 (MQ below (va_Qv (fun (_ : Unit) => True) (fun _ t => kE D ct ad G A y t) A) ([.ref (ad a), .int p0, .int p1, .int p2, .int p3, .int p4, .int p5] : List Value).toArray s 0 0 A) (F0 m 318 ls []) := by
                              intro H locs ls hP hD hS hl
                              obtain rfl := Option.some.inj hF
                              exact J380 _ _ _ hP hD hS (lv_sub hl [0, 1, 2, 3, 4, 5, 6, 7, 8, 9, 10, 11, 12, 13, 14, 15] rfl)
                            clear hF
                            have hF := hy413
                            clear hy413
                            refine lv_if_eq (tgt := 246) hx hb dX9_guess_233 (by decide) (fun c414 => ?_) (fun c414 => ?_)
                            · rw [if_pos c414] at hF
                              refine lv_iload hx hb dX9_guess_246 (lv_at hl 5 rfl) ?_
                              obtain ⟨y415, hy415, hF⟩ := bnd_some hF
                              have J415 : ∀ (H : Heap) (locs : List Loc) (ls : Array Slot), va_P D classes (wld ct ad G y415) H → va_D A (wld ct ad G y415) → va_S A s.heap H locs → lv_has ls 16 [(15, .int x21), (14, .int y16), (13, .int y14), (12, .int y12), (11, .int y10.1), (10, .int y6.2), (9, .int y4.2), (8, .int y2.2), (7, .int y1.2), (0, .ref (ad a)), (1, .int p0), (2, .int p1), (3, .int p2), (4, .int p3), (5, .int p4), (6, .int p5)] → W p l e (headSpec wuX9_guess ({ frames := 1, cells := 0, slots := 0, locals := 34 })).room s m ([.ref (ad a), .int p0, .int p1, .int p2, .int p3, .int p4, .int p5] : List Value).toArray below meth c H locs 0 0 (MQ below (va_Qv (fun (_ : Unit) => True) (fun _ t => kE D ct ad G A y t) A) ([.ref (ad a), .int p0, .int p1, .int p2, .int p3, .int p4, .int p5] : List Value).toArray s 0 0 A) (F0 m 318 ls []) := by
                                intro H locs ls hP hD hS hl
                                obtain rfl := Option.some.inj hF
                                exact J413 _ _ _ hP hD hS (lv_sub hl [0, 1, 2, 3, 4, 5, 6, 7, 8, 9, 10, 11, 12, 13, 14, 15] rfl)
                              clear hF
                              have hF := hy415
                              clear hy415
                              refine lv_if_ge (tgt := 271) hx hb dX9_guess_248 (by decide) (fun c416 => ?_) (fun c416 => ?_)
                              · rw [if_pos c416] at hF
                                refine lv_iload hx hb dX9_guess_271 (lv_at hl 0 rfl) ?_
                                refine lv_iconst (v := (1 : Int32)) hx hb dX9_guess_273 (by decide) ?_
                                obtain ⟨y417, hy417, hF⟩ := bnd_some hF
                                have J417 : ∀ (H : Heap) (locs : List Loc) (ls : Array Slot), va_P D classes (wld ct ad G y417) H → va_D A (wld ct ad G y417) → va_S A s.heap H locs → lv_has ls 16 [(15, .int x21), (14, .int y16), (13, .int y14), (12, .int y12), (11, .int y10.1), (10, .int y6.2), (9, .int y4.2), (8, .int y2.2), (7, .int y1.2), (0, .ref (ad a)), (1, .int p0), (2, .int p1), (3, .int p2), (4, .int p3), (5, .int p4), (6, .int p5)] → W p l e (headSpec wuX9_guess ({ frames := 1, cells := 0, slots := 0, locals := 34 })).room s m ([.ref (ad a), .int p0, .int p1, .int p2, .int p3, .int p4, .int p5] : List Value).toArray below meth c H locs 0 0 (MQ below (va_Qv (fun (_ : Unit) => True) (fun _ t => kE D ct ad G A y t) A) ([.ref (ad a), .int p0, .int p1, .int p2, .int p3, .int p4, .int p5] : List Value).toArray s 0 0 A) (F0 m 318 ls []) := by
                                  intro H locs ls hP hD hS hl
                                  obtain rfl := Option.some.inj hF
                                  exact J415 _ _ _ hP hD hS (lv_sub hl [0, 1, 2, 3, 4, 5, 6, 7, 8, 9, 10, 11, 12, 13, 14, 15] rfl)
                                clear hF
                                have hF := hy417
                                clear hy417
                                refine lv_icmp_ne (tgt := 307) hx hb dX9_guess_274 (by decide) (fun c418 => ?_) (fun c418 => ?_)
                                · rw [if_neg c418] at hF
                                  refine lv_aload_n hx hb dX9_guess_307 rfl (lv_at hl 9 rfl) ?_
                                  refine lv_iload_n hx hb dX9_guess_308 rfl (lv_at hl 11 rfl) ?_
                                  refine lv_iload hx hb dX9_guess_309 (lv_at hl 6 rfl) ?_
                                  refine lv_iload hx hb dX9_guess_311 (lv_at hl 5 rfl) ?_
                                  refine lv_iload hx hb dX9_guess_313 (lv_at hl 4 rfl) ?_
                                  obtain ⟨y419, hy419, hF⟩ := bnd_some hF
                                  have hf9 := wA_in hD hA9 hS
                                  refine va_callv (va_runV (As := [.int p1, .int y4.2, .int y6.2, .int y10.1]) (rest := []) ⟨hx, hb, hml, hown, hts⟩ (kX9_adoptMedian l D ct ad Z G y15.1 H.size a p1 y4.2 y6.2 y10.1 y419 hc hk hy419) (cwV 4 hts gX9_guess_X9_adoptMedian rfl rfl rfl (by decide +kernel) ⟨Nat.le_of_ble_eq_true rfl, Nat.le_of_ble_eq_true rfl⟩) ⟨fun a U g mk q => by obtain ⟨q0, q1, qP, qK, qD, qZ, qN⟩ := q; exact ⟨q0, q1, qP, va_K.moved (u := U) (U := U.calling g mk a) (Vm.Alike.refl U.vm) qK, qD, sF.moved (u := U) (U := U.calling g mk a) (Vm.Alike.refl U.vm) qZ, nF.same rfl qN⟩, va_recv hK hP (ci := 9) (q0 := a) rfl (wld_o ct ad G y15.1 hc hk (by decide)), fun U hU hW => ⟨rfl, by rw [hU], by rw [hU]; exact hP, va_K.moved hW.alike hK, hD.weaken (fun _ _ _ _ => trivial), by rw [hU]; exact ((hZ.kept hS.2.1).narrow hf9).moved hW.alike, hN.warm hW⟩⟩ rfl rfl hl.1 rfl (lv_room (Nat.le_of_ble_eq_true rfl)) dX9_guess_315 ⟨(Nat.zero_le _), (Nat.zero_le _)⟩) hS (fun q _ h => hf9 q h) hf9 (fun u t H locs ht hvm hw hB hz1 hk1 hS => ?_)
                                  obtain ⟨hP, hK9, hD9⟩ := hB
                                  rw [ht] at hP
                                  have hD := hD9.weaken (fun _ q _ h => hf9 q.1 h)
                                  obtain rfl := Option.some.inj hF
                                  exact J417 _ _ _ hP hD hS (lv_sub hl [0, 1, 2, 3, 4, 5, 6, 7, 8, 9, 10, 11, 12, 13, 14, 15] rfl)
                                · rw [if_pos c418] at hF
                                  refine lv_aload_n hx hb dX9_guess_277 rfl (lv_at hl 9 rfl) ?_
                                  refine lv_iload_n hx hb dX9_guess_278 rfl (lv_at hl 11 rfl) ?_
                                  refine lv_iload hx hb dX9_guess_279 (lv_at hl 3 rfl) ?_
                                  obtain ⟨y420, hy420, hF⟩ := bnd_some hF
                                  have J420 : ∀ (H : Heap) (locs : List Loc) (ls : Array Slot), va_P D classes (wld ct ad G y15.1) H → va_D A (wld ct ad G y15.1) → va_S A s.heap H locs → lv_has ls 16 [(15, .int x21), (14, .int y16), (13, .int y14), (12, .int y12), (11, .int y10.1), (10, .int y6.2), (9, .int y4.2), (8, .int y2.2), (7, .int y1.2), (0, .ref (ad a)), (1, .int p0), (2, .int p1), (3, .int p2), (4, .int p3), (5, .int p4), (6, .int p5)] → W p l e (headSpec wuX9_guess ({ frames := 1, cells := 0, slots := 0, locals := 34 })).room s m ([.ref (ad a), .int p0, .int p1, .int p2, .int p3, .int p4, .int p5] : List Value).toArray below meth c H locs 0 0 (MQ below (va_Qv (fun (_ : Unit) => True) (fun _ t => kE D ct ad G A y t) A) ([.ref (ad a), .int p0, .int p1, .int p2, .int p3, .int p4, .int p5] : List Value).toArray s 0 0 A) (F0 m 301 ls [.int y420, .int p1, .ref (ad a)]) := by
                                    intro H locs ls hP hD hS hl
                                    obtain ⟨y421, hy421, hF⟩ := bnd_some hF
                                    have hf9 := wA_in hD hA9 hS
                                    refine va_callv (va_runV (As := [.int p1, .int y420]) (rest := []) ⟨hx, hb, hml, hown, hts⟩ (kX9_adopt l D ct ad Z G y15.1 H.size a p1 y420 y421 hc hk hy421) (cwV 2 hts gX9_guess_X9_adopt rfl rfl rfl (by decide +kernel) ⟨Nat.le_of_ble_eq_true rfl, Nat.le_of_ble_eq_true rfl⟩) ⟨fun a U g mk q => by obtain ⟨q0, q1, qP, qK, qD, qZ, qN⟩ := q; exact ⟨q0, q1, qP, va_K.moved (u := U) (U := U.calling g mk a) (Vm.Alike.refl U.vm) qK, qD, sF.moved (u := U) (U := U.calling g mk a) (Vm.Alike.refl U.vm) qZ, nF.same rfl qN⟩, va_recv hK hP (ci := 9) (q0 := a) rfl (wld_o ct ad G y15.1 hc hk (by decide)), fun U hU hW => ⟨rfl, by rw [hU], by rw [hU]; exact hP, va_K.moved hW.alike hK, hD.weaken (fun _ _ _ _ => trivial), by rw [hU]; exact ((hZ.kept hS.2.1).narrow hf9).moved hW.alike, hN.warm hW⟩⟩ rfl rfl hl.1 rfl (lv_room (Nat.le_of_ble_eq_true rfl)) dX9_guess_301 ⟨(Nat.zero_le _), (Nat.zero_le _)⟩) hS (fun q _ h => hf9 q h) hf9 (fun u t H locs ht hvm hw hB hz1 hk1 hS => ?_)
                                    obtain ⟨hP, hK9, hD9⟩ := hB
                                    rw [ht] at hP
                                    have hD := hD9.weaken (fun _ q _ h => hf9 q.1 h)
                                    refine lv_goto (tgt := 318) hx hb dX9_guess_304 (by decide) ?_
                                    obtain rfl := Option.some.inj hF
                                    exact J417 _ _ _ hP hD hS (lv_sub hl [0, 1, 2, 3, 4, 5, 6, 7, 8, 9, 10, 11, 12, 13, 14, 15] rfl)
                                  clear hF
                                  have hF := hy420
                                  clear hy420
                                  refine lv_if_eq (tgt := 289) hx hb dX9_guess_281 (by decide) (fun c422 => ?_) (fun c422 => ?_)
                                  · rw [if_pos c422] at hF
                                    refine lv_iload hx hb dX9_guess_289 (lv_at hl 2 rfl) ?_
                                    obtain ⟨y423, hy423, hF⟩ := bnd_some hF
                                    have J423 : ∀ (H : Heap) (locs : List Loc) (ls : Array Slot), va_P D classes (wld ct ad G y15.1) H → va_D A (wld ct ad G y15.1) → va_S A s.heap H locs → lv_has ls 16 [(15, .int x21), (14, .int y16), (13, .int y14), (12, .int y12), (11, .int y10.1), (10, .int y6.2), (9, .int y4.2), (8, .int y2.2), (7, .int y1.2), (0, .ref (ad a)), (1, .int p0), (2, .int p1), (3, .int p2), (4, .int p3), (5, .int p4), (6, .int p5)] → W p l e (headSpec wuX9_guess ({ frames := 1, cells := 0, slots := 0, locals := 34 })).room s m ([.ref (ad a), .int p0, .int p1, .int p2, .int p3, .int p4, .int p5] : List Value).toArray below meth c H locs 0 0 (MQ below (va_Qv (fun (_ : Unit) => True) (fun _ t => kE D ct ad G A y t) A) ([.ref (ad a), .int p0, .int p1, .int p2, .int p3, .int p4, .int p5] : List Value).toArray s 0 0 A) (F0 m 301 ls [.int y423, .int p1, .ref (ad a)]) := by
                                      intro H locs ls hP hD hS hl
                                      obtain rfl := Option.some.inj hF
                                      exact J420 _ _ _ hP hD hS (lv_sub hl [0, 1, 2, 3, 4, 5, 6, 7, 8, 9, 10, 11, 12, 13, 14, 15] rfl)
                                    clear hF
                                    have hF := hy423
                                    clear hy423
                                    refine lv_if_eq (tgt := 299) hx hb dX9_guess_291 (by decide) (fun c424 => ?_) (fun c424 => ?_)
                                    · rw [if_pos c424] at hF
                                      refine lv_iload hx hb dX9_guess_299 (lv_at hl 4 rfl) ?_
                                      obtain rfl := Option.some.inj hF
                                      exact J423 _ _ _ hP hD hS (lv_sub hl [0, 1, 2, 3, 4, 5, 6, 7, 8, 9, 10, 11, 12, 13, 14, 15] rfl)
                                    · rw [if_neg c424] at hF
                                      refine lv_iload hx hb dX9_guess_294 (lv_at hl 5 rfl) ?_
                                      refine lv_goto (tgt := 301) hx hb dX9_guess_296 (by decide) ?_
                                      obtain rfl := Option.some.inj hF
                                      exact J423 _ _ _ hP hD hS (lv_sub hl [0, 1, 2, 3, 4, 5, 6, 7, 8, 9, 10, 11, 12, 13, 14, 15] rfl)
                                  · rw [if_neg c422] at hF
                                    refine lv_iload hx hb dX9_guess_284 (lv_at hl 6 rfl) ?_
                                    refine lv_goto (tgt := 301) hx hb dX9_guess_286 (by decide) ?_
                                    obtain rfl := Option.some.inj hF
                                    exact J420 _ _ _ hP hD hS (lv_sub hl [0, 1, 2, 3, 4, 5, 6, 7, 8, 9, 10, 11, 12, 13, 14, 15] rfl)
                              · rw [if_neg c416] at hF
                                refine lv_iload hx hb dX9_guess_251 (lv_at hl 4 rfl) ?_
                                obtain ⟨y425, hy425, hF⟩ := bnd_some hF
                                have J425 : ∀ (H : Heap) (locs : List Loc) (ls : Array Slot), va_P D classes (wld ct ad G y425) H → va_D A (wld ct ad G y425) → va_S A s.heap H locs → lv_has ls 16 [(15, .int x21), (14, .int y16), (13, .int y14), (12, .int y12), (11, .int y10.1), (10, .int y6.2), (9, .int y4.2), (8, .int y2.2), (7, .int y1.2), (0, .ref (ad a)), (1, .int p0), (2, .int p1), (3, .int p2), (4, .int p3), (5, .int p4), (6, .int p5)] → W p l e (headSpec wuX9_guess ({ frames := 1, cells := 0, slots := 0, locals := 34 })).room s m ([.ref (ad a), .int p0, .int p1, .int p2, .int p3, .int p4, .int p5] : List Value).toArray below meth c H locs 0 0 (MQ below (va_Qv (fun (_ : Unit) => True) (fun _ t => kE D ct ad G A y t) A) ([.ref (ad a), .int p0, .int p1, .int p2, .int p3, .int p4, .int p5] : List Value).toArray s 0 0 A) (F0 m 318 ls []) := by
                                  intro H locs ls hP hD hS hl
                                  obtain rfl := Option.some.inj hF
                                  exact J415 _ _ _ hP hD hS (lv_sub hl [0, 1, 2, 3, 4, 5, 6, 7, 8, 9, 10, 11, 12, 13, 14, 15] rfl)
                                clear hF
                                have hF := hy425
                                clear hy425
                                refine lv_if_ge (tgt := 271) hx hb dX9_guess_253 (by decide) (fun c426 => ?_) (fun c426 => ?_)
                                · rw [if_pos c426] at hF
                                  refine lv_iload hx hb dX9_guess_271 (lv_at hl 0 rfl) ?_
                                  refine lv_iconst (v := (1 : Int32)) hx hb dX9_guess_273 (by decide) ?_
                                  obtain ⟨y427, hy427, hF⟩ := bnd_some hF
                                  have J427 : ∀ (H : Heap) (locs : List Loc) (ls : Array Slot), va_P D classes (wld ct ad G y427) H → va_D A (wld ct ad G y427) → va_S A s.heap H locs → lv_has ls 16 [(15, .int x21), (14, .int y16), (13, .int y14), (12, .int y12), (11, .int y10.1), (10, .int y6.2), (9, .int y4.2), (8, .int y2.2), (7, .int y1.2), (0, .ref (ad a)), (1, .int p0), (2, .int p1), (3, .int p2), (4, .int p3), (5, .int p4), (6, .int p5)] → W p l e (headSpec wuX9_guess ({ frames := 1, cells := 0, slots := 0, locals := 34 })).room s m ([.ref (ad a), .int p0, .int p1, .int p2, .int p3, .int p4, .int p5] : List Value).toArray below meth c H locs 0 0 (MQ below (va_Qv (fun (_ : Unit) => True) (fun _ t => kE D ct ad G A y t) A) ([.ref (ad a), .int p0, .int p1, .int p2, .int p3, .int p4, .int p5] : List Value).toArray s 0 0 A) (F0 m 318 ls []) := by
                                    intro H locs ls hP hD hS hl
                                    obtain rfl := Option.some.inj hF
                                    exact J425 _ _ _ hP hD hS (lv_sub hl [0, 1, 2, 3, 4, 5, 6, 7, 8, 9, 10, 11, 12, 13, 14, 15] rfl)
                                  clear hF
                                  have hF := hy427
                                  clear hy427
                                  refine lv_icmp_ne (tgt := 307) hx hb dX9_guess_274 (by decide) (fun c428 => ?_) (fun c428 => ?_)
                                  · rw [if_neg c428] at hF
                                    refine lv_aload_n hx hb dX9_guess_307 rfl (lv_at hl 9 rfl) ?_
                                    refine lv_iload_n hx hb dX9_guess_308 rfl (lv_at hl 11 rfl) ?_
                                    refine lv_iload hx hb dX9_guess_309 (lv_at hl 6 rfl) ?_
                                    refine lv_iload hx hb dX9_guess_311 (lv_at hl 5 rfl) ?_
                                    refine lv_iload hx hb dX9_guess_313 (lv_at hl 4 rfl) ?_
                                    obtain ⟨y429, hy429, hF⟩ := bnd_some hF
                                    have hf9 := wA_in hD hA9 hS
                                    refine va_callv (va_runV (As := [.int p1, .int y4.2, .int y6.2, .int y10.1]) (rest := []) ⟨hx, hb, hml, hown, hts⟩ (kX9_adoptMedian l D ct ad Z G y15.1 H.size a p1 y4.2 y6.2 y10.1 y429 hc hk hy429) (cwV 4 hts gX9_guess_X9_adoptMedian rfl rfl rfl (by decide +kernel) ⟨Nat.le_of_ble_eq_true rfl, Nat.le_of_ble_eq_true rfl⟩) ⟨fun a U g mk q => by obtain ⟨q0, q1, qP, qK, qD, qZ, qN⟩ := q; exact ⟨q0, q1, qP, va_K.moved (u := U) (U := U.calling g mk a) (Vm.Alike.refl U.vm) qK, qD, sF.moved (u := U) (U := U.calling g mk a) (Vm.Alike.refl U.vm) qZ, nF.same rfl qN⟩, va_recv hK hP (ci := 9) (q0 := a) rfl (wld_o ct ad G y15.1 hc hk (by decide)), fun U hU hW => ⟨rfl, by rw [hU], by rw [hU]; exact hP, va_K.moved hW.alike hK, hD.weaken (fun _ _ _ _ => trivial), by rw [hU]; exact ((hZ.kept hS.2.1).narrow hf9).moved hW.alike, hN.warm hW⟩⟩ rfl rfl hl.1 rfl (lv_room (Nat.le_of_ble_eq_true rfl)) dX9_guess_315 ⟨(Nat.zero_le _), (Nat.zero_le _)⟩) hS (fun q _ h => hf9 q h) hf9 (fun u t H locs ht hvm hw hB hz1 hk1 hS => ?_)
                                    obtain ⟨hP, hK9, hD9⟩ := hB
                                    rw [ht] at hP
                                    have hD := hD9.weaken (fun _ q _ h => hf9 q.1 h)
                                    obtain rfl := Option.some.inj hF
                                    exact J427 _ _ _ hP hD hS (lv_sub hl [0, 1, 2, 3, 4, 5, 6, 7, 8, 9, 10, 11, 12, 13, 14, 15] rfl)
                                  · rw [if_pos c428] at hF
                                    refine lv_aload_n hx hb dX9_guess_277 rfl (lv_at hl 9 rfl) ?_
                                    refine lv_iload_n hx hb dX9_guess_278 rfl (lv_at hl 11 rfl) ?_
                                    refine lv_iload hx hb dX9_guess_279 (lv_at hl 3 rfl) ?_
                                    obtain ⟨y430, hy430, hF⟩ := bnd_some hF
                                    have J430 : ∀ (H : Heap) (locs : List Loc) (ls : Array Slot), va_P D classes (wld ct ad G y15.1) H → va_D A (wld ct ad G y15.1) → va_S A s.heap H locs → lv_has ls 16 [(15, .int x21), (14, .int y16), (13, .int y14), (12, .int y12), (11, .int y10.1), (10, .int y6.2), (9, .int y4.2), (8, .int y2.2), (7, .int y1.2), (0, .ref (ad a)), (1, .int p0), (2, .int p1), (3, .int p2), (4, .int p3), (5, .int p4), (6, .int p5)] → W p l e (headSpec wuX9_guess ({ frames := 1, cells := 0, slots := 0, locals := 34 })).room s m ([.ref (ad a), .int p0, .int p1, .int p2, .int p3, .int p4, .int p5] : List Value).toArray below meth c H locs 0 0 (MQ below (va_Qv (fun (_ : Unit) => True) (fun _ t => kE D ct ad G A y t) A) ([.ref (ad a), .int p0, .int p1, .int p2, .int p3, .int p4, .int p5] : List Value).toArray s 0 0 A) (F0 m 301 ls [.int y430, .int p1, .ref (ad a)]) := by
                                      intro H locs ls hP hD hS hl
                                      obtain ⟨y431, hy431, hF⟩ := bnd_some hF
                                      have hf9 := wA_in hD hA9 hS
                                      refine va_callv (va_runV (As := [.int p1, .int y430]) (rest := []) ⟨hx, hb, hml, hown, hts⟩ (kX9_adopt l D ct ad Z G y15.1 H.size a p1 y430 y431 hc hk hy431) (cwV 2 hts gX9_guess_X9_adopt rfl rfl rfl (by decide +kernel) ⟨Nat.le_of_ble_eq_true rfl, Nat.le_of_ble_eq_true rfl⟩) ⟨fun a U g mk q => by obtain ⟨q0, q1, qP, qK, qD, qZ, qN⟩ := q; exact ⟨q0, q1, qP, va_K.moved (u := U) (U := U.calling g mk a) (Vm.Alike.refl U.vm) qK, qD, sF.moved (u := U) (U := U.calling g mk a) (Vm.Alike.refl U.vm) qZ, nF.same rfl qN⟩, va_recv hK hP (ci := 9) (q0 := a) rfl (wld_o ct ad G y15.1 hc hk (by decide)), fun U hU hW => ⟨rfl, by rw [hU], by rw [hU]; exact hP, va_K.moved hW.alike hK, hD.weaken (fun _ _ _ _ => trivial), by rw [hU]; exact ((hZ.kept hS.2.1).narrow hf9).moved hW.alike, hN.warm hW⟩⟩ rfl rfl hl.1 rfl (lv_room (Nat.le_of_ble_eq_true rfl)) dX9_guess_301 ⟨(Nat.zero_le _), (Nat.zero_le _)⟩) hS (fun q _ h => hf9 q h) hf9 (fun u t H locs ht hvm hw hB hz1 hk1 hS => ?_)
                                      obtain ⟨hP, hK9, hD9⟩ := hB
                                      rw [ht] at hP
                                      have hD := hD9.weaken (fun _ q _ h => hf9 q.1 h)
                                      refine lv_goto (tgt := 318) hx hb dX9_guess_304 (by decide) ?_
                                      obtain rfl := Option.some.inj hF
                                      exact J427 _ _ _ hP hD hS (lv_sub hl [0, 1, 2, 3, 4, 5, 6, 7, 8, 9, 10, 11, 12, 13, 14, 15] rfl)
                                    clear hF
                                    have hF := hy430
                                    clear hy430
                                    refine lv_if_eq (tgt := 289) hx hb dX9_guess_281 (by decide) (fun c432 => ?_) (fun c432 => ?_)
                                    · rw [if_pos c432] at hF
                                      refine lv_iload hx hb dX9_guess_289 (lv_at hl 2 rfl) ?_
                                      obtain ⟨y433, hy433, hF⟩ := bnd_some hF
                                      have J433 : ∀ (H : Heap) (locs : List Loc) (ls : Array Slot), va_P D classes (wld ct ad G y15.1) H → va_D A (wld ct ad G y15.1) → va_S A s.heap H locs → lv_has ls 16 [(15, .int x21), (14, .int y16), (13, .int y14), (12, .int y12), (11, .int y10.1), (10, .int y6.2), (9, .int y4.2), (8, .int y2.2), (7, .int y1.2), (0, .ref (ad a)), (1, .int p0), (2, .int p1), (3, .int p2), (4, .int p3), (5, .int p4), (6, .int p5)] → W p l e (headSpec wuX9_guess ({ frames := 1, cells := 0, slots := 0, locals := 34 })).room s m ([.ref (ad a), .int p0, .int p1, .int p2, .int p3, .int p4, .int p5] : List Value).toArray below meth c H locs 0 0 (MQ below (va_Qv (fun (_ : Unit) => True) (fun _ t => kE D ct ad G A y t) A) ([.ref (ad a), .int p0, .int p1, .int p2, .int p3, .int p4, .int p5] : List Value).toArray s 0 0 A) (F0 m 301 ls [.int y433, .int p1, .ref (ad a)]) := by
                                        intro H locs ls hP hD hS hl
                                        obtain rfl := Option.some.inj hF
                                        exact J430 _ _ _ hP hD hS (lv_sub hl [0, 1, 2, 3, 4, 5, 6, 7, 8, 9, 10, 11, 12, 13, 14, 15] rfl)
                                      clear hF
                                      have hF := hy433
                                      clear hy433
                                      refine lv_if_eq (tgt := 299) hx hb dX9_guess_291 (by decide) (fun c434 => ?_) (fun c434 => ?_)
                                      · rw [if_pos c434] at hF
                                        refine lv_iload hx hb dX9_guess_299 (lv_at hl 4 rfl) ?_
                                        obtain rfl := Option.some.inj hF
                                        exact J433 _ _ _ hP hD hS (lv_sub hl [0, 1, 2, 3, 4, 5, 6, 7, 8, 9, 10, 11, 12, 13, 14, 15] rfl)
                                      · rw [if_neg c434] at hF
                                        refine lv_iload hx hb dX9_guess_294 (lv_at hl 5 rfl) ?_
                                        refine lv_goto (tgt := 301) hx hb dX9_guess_296 (by decide) ?_
                                        obtain rfl := Option.some.inj hF
                                        exact J433 _ _ _ hP hD hS (lv_sub hl [0, 1, 2, 3, 4, 5, 6, 7, 8, 9, 10, 11, 12, 13, 14, 15] rfl)
                                    · rw [if_neg c432] at hF
                                      refine lv_iload hx hb dX9_guess_284 (lv_at hl 6 rfl) ?_
                                      refine lv_goto (tgt := 301) hx hb dX9_guess_286 (by decide) ?_
                                      obtain rfl := Option.some.inj hF
                                      exact J430 _ _ _ hP hD hS (lv_sub hl [0, 1, 2, 3, 4, 5, 6, 7, 8, 9, 10, 11, 12, 13, 14, 15] rfl)
                                · rw [if_neg c426] at hF
                                  refine lv_iload hx hb dX9_guess_256 (lv_at hl 6 rfl) ?_
                                  obtain ⟨y435, hy435, hF⟩ := bnd_some hF
                                  have J435 : ∀ (H : Heap) (locs : List Loc) (ls : Array Slot), va_P D classes (wld ct ad G y435) H → va_D A (wld ct ad G y435) → va_S A s.heap H locs → lv_has ls 16 [(15, .int x21), (14, .int y16), (13, .int y14), (12, .int y12), (11, .int y10.1), (10, .int y6.2), (9, .int y4.2), (8, .int y2.2), (7, .int y1.2), (0, .ref (ad a)), (1, .int p0), (2, .int p1), (3, .int p2), (4, .int p3), (5, .int p4), (6, .int p5)] → W p l e (headSpec wuX9_guess ({ frames := 1, cells := 0, slots := 0, locals := 34 })).room s m ([.ref (ad a), .int p0, .int p1, .int p2, .int p3, .int p4, .int p5] : List Value).toArray below meth c H locs 0 0 (MQ below (va_Qv (fun (_ : Unit) => True) (fun _ t => kE D ct ad G A y t) A) ([.ref (ad a), .int p0, .int p1, .int p2, .int p3, .int p4, .int p5] : List Value).toArray s 0 0 A) (F0 m 318 ls []) := by
                                    intro H locs ls hP hD hS hl
                                    obtain rfl := Option.some.inj hF
                                    exact J425 _ _ _ hP hD hS (lv_sub hl [0, 1, 2, 3, 4, 5, 6, 7, 8, 9, 10, 11, 12, 13, 14, 15] rfl)
                                  clear hF
                                  have hF := hy435
                                  clear hy435
                                  refine lv_if_lt (tgt := 271) hx hb dX9_guess_258 (by decide) (fun c436 => ?_) (fun c436 => ?_)
                                  · rw [if_pos c436] at hF
                                    refine lv_iload hx hb dX9_guess_271 (lv_at hl 0 rfl) ?_
                                    refine lv_iconst (v := (1 : Int32)) hx hb dX9_guess_273 (by decide) ?_
                                    obtain ⟨y437, hy437, hF⟩ := bnd_some hF
                                    have J437 : ∀ (H : Heap) (locs : List Loc) (ls : Array Slot), va_P D classes (wld ct ad G y437) H → va_D A (wld ct ad G y437) → va_S A s.heap H locs → lv_has ls 16 [(15, .int x21), (14, .int y16), (13, .int y14), (12, .int y12), (11, .int y10.1), (10, .int y6.2), (9, .int y4.2), (8, .int y2.2), (7, .int y1.2), (0, .ref (ad a)), (1, .int p0), (2, .int p1), (3, .int p2), (4, .int p3), (5, .int p4), (6, .int p5)] → W p l e (headSpec wuX9_guess ({ frames := 1, cells := 0, slots := 0, locals := 34 })).room s m ([.ref (ad a), .int p0, .int p1, .int p2, .int p3, .int p4, .int p5] : List Value).toArray below meth c H locs 0 0 (MQ below (va_Qv (fun (_ : Unit) => True) (fun _ t => kE D ct ad G A y t) A) ([.ref (ad a), .int p0, .int p1, .int p2, .int p3, .int p4, .int p5] : List Value).toArray s 0 0 A) (F0 m 318 ls []) := by
                                      intro H locs ls hP hD hS hl
                                      obtain rfl := Option.some.inj hF
                                      exact J435 _ _ _ hP hD hS (lv_sub hl [0, 1, 2, 3, 4, 5, 6, 7, 8, 9, 10, 11, 12, 13, 14, 15] rfl)
                                    clear hF
                                    have hF := hy437
                                    clear hy437
                                    refine lv_icmp_ne (tgt := 307) hx hb dX9_guess_274 (by decide) (fun c438 => ?_) (fun c438 => ?_)
                                    · rw [if_neg c438] at hF
                                      refine lv_aload_n hx hb dX9_guess_307 rfl (lv_at hl 9 rfl) ?_
                                      refine lv_iload_n hx hb dX9_guess_308 rfl (lv_at hl 11 rfl) ?_
                                      refine lv_iload hx hb dX9_guess_309 (lv_at hl 6 rfl) ?_
                                      refine lv_iload hx hb dX9_guess_311 (lv_at hl 5 rfl) ?_
                                      refine lv_iload hx hb dX9_guess_313 (lv_at hl 4 rfl) ?_
                                      obtain ⟨y439, hy439, hF⟩ := bnd_some hF
                                      have hf9 := wA_in hD hA9 hS
                                      refine va_callv (va_runV (As := [.int p1, .int y4.2, .int y6.2, .int y10.1]) (rest := []) ⟨hx, hb, hml, hown, hts⟩ (kX9_adoptMedian l D ct ad Z G y15.1 H.size a p1 y4.2 y6.2 y10.1 y439 hc hk hy439) (cwV 4 hts gX9_guess_X9_adoptMedian rfl rfl rfl (by decide +kernel) ⟨Nat.le_of_ble_eq_true rfl, Nat.le_of_ble_eq_true rfl⟩) ⟨fun a U g mk q => by obtain ⟨q0, q1, qP, qK, qD, qZ, qN⟩ := q; exact ⟨q0, q1, qP, va_K.moved (u := U) (U := U.calling g mk a) (Vm.Alike.refl U.vm) qK, qD, sF.moved (u := U) (U := U.calling g mk a) (Vm.Alike.refl U.vm) qZ, nF.same rfl qN⟩, va_recv hK hP (ci := 9) (q0 := a) rfl (wld_o ct ad G y15.1 hc hk (by decide)), fun U hU hW => ⟨rfl, by rw [hU], by rw [hU]; exact hP, va_K.moved hW.alike hK, hD.weaken (fun _ _ _ _ => trivial), by rw [hU]; exact ((hZ.kept hS.2.1).narrow hf9).moved hW.alike, hN.warm hW⟩⟩ rfl rfl hl.1 rfl (lv_room (Nat.le_of_ble_eq_true rfl)) dX9_guess_315 ⟨(Nat.zero_le _), (Nat.zero_le _)⟩) hS (fun q _ h => hf9 q h) hf9 (fun u t H locs ht hvm hw hB hz1 hk1 hS => ?_)
                                      obtain ⟨hP, hK9, hD9⟩ := hB
                                      rw [ht] at hP
                                      have hD := hD9.weaken (fun _ q _ h => hf9 q.1 h)
                                      obtain rfl := Option.some.inj hF
                                      exact J437 _ _ _ hP hD hS (lv_sub hl [0, 1, 2, 3, 4, 5, 6, 7, 8, 9, 10, 11, 12, 13, 14, 15] rfl)
                                    · rw [if_pos c438] at hF
                                      refine lv_aload_n hx hb dX9_guess_277 rfl (lv_at hl 9 rfl) ?_
                                      refine lv_iload_n hx hb dX9_guess_278 rfl (lv_at hl 11 rfl) ?_
                                      refine lv_iload hx hb dX9_guess_279 (lv_at hl 3 rfl) ?_
                                      obtain ⟨y440, hy440, hF⟩ := bnd_some hF
                                      have J440 : ∀ (H : Heap) (locs : List Loc) (ls : Array Slot), va_P D classes (wld ct ad G y15.1) H → va_D A (wld ct ad G y15.1) → va_S A s.heap H locs → lv_has ls 16 [(15, .int x21), (14, .int y16), (13, .int y14), (12, .int y12), (11, .int y10.1), (10, .int y6.2), (9, .int y4.2), (8, .int y2.2), (7, .int y1.2), (0, .ref (ad a)), (1, .int p0), (2, .int p1), (3, .int p2), (4, .int p3), (5, .int p4), (6, .int p5)] → W p l e (headSpec wuX9_guess ({ frames := 1, cells := 0, slots := 0, locals := 34 })).room s m ([.ref (ad a), .int p0, .int p1, .int p2, .int p3, .int p4, .int p5] : List Value).toArray below meth c H locs 0 0 (MQ below (va_Qv (fun (_ : Unit) => True) (fun _ t => kE D ct ad G A y t) A) ([.ref (ad a), .int p0, .int p1, .int p2, .int p3, .int p4, .int p5] : List Value).toArray s 0 0 A) (F0 m 301 ls [.int y440, .int p1, .ref (ad a)]) := by
                                        intro H locs ls hP hD hS hl
                                        obtain ⟨y441, hy441, hF⟩ := bnd_some hF
                                        have hf9 := wA_in hD hA9 hS
                                        refine va_callv (va_runV (As := [.int p1, .int y440]) (rest := []) ⟨hx, hb, hml, hown, hts⟩ (kX9_adopt l D ct ad Z G y15.1 H.size a p1 y440 y441 hc hk hy441) (cwV 2 hts gX9_guess_X9_adopt rfl rfl rfl (by decide +kernel) ⟨Nat.le_of_ble_eq_true rfl, Nat.le_of_ble_eq_true rfl⟩) ⟨fun a U g mk q => by obtain ⟨q0, q1, qP, qK, qD, qZ, qN⟩ := q; exact ⟨q0, q1, qP, va_K.moved (u := U) (U := U.calling g mk a) (Vm.Alike.refl U.vm) qK, qD, sF.moved (u := U) (U := U.calling g mk a) (Vm.Alike.refl U.vm) qZ, nF.same rfl qN⟩, va_recv hK hP (ci := 9) (q0 := a) rfl (wld_o ct ad G y15.1 hc hk (by decide)), fun U hU hW => ⟨rfl, by rw [hU], by rw [hU]; exact hP, va_K.moved hW.alike hK, hD.weaken (fun _ _ _ _ => trivial), by rw [hU]; exact ((hZ.kept hS.2.1).narrow hf9).moved hW.alike, hN.warm hW⟩⟩ rfl rfl hl.1 rfl (lv_room (Nat.le_of_ble_eq_true rfl)) dX9_guess_301 ⟨(Nat.zero_le _), (Nat.zero_le _)⟩) hS (fun q _ h => hf9 q h) hf9 (fun u t H locs ht hvm hw hB hz1 hk1 hS => ?_)
                                        obtain ⟨hP, hK9, hD9⟩ := hB
                                        rw [ht] at hP
                                        have hD := hD9.weaken (fun _ q _ h => hf9 q.1 h)
                                        refine lv_goto (tgt := 318) hx hb dX9_guess_304 (by decide) ?_
                                        obtain rfl := Option.some.inj hF
                                        exact J437 _ _ _ hP hD hS (lv_sub hl [0, 1, 2, 3, 4, 5, 6, 7, 8, 9, 10, 11, 12, 13, 14, 15] rfl)
                                      clear hF
                                      have hF := hy440
                                      clear hy440
                                      refine lv_if_eq (tgt := 289) hx hb dX9_guess_281 (by decide) (fun c442 => ?_) (fun c442 => ?_)
                                      · rw [if_pos c442] at hF
                                        refine lv_iload hx hb dX9_guess_289 (lv_at hl 2 rfl) ?_
                                        obtain ⟨y443, hy443, hF⟩ := bnd_some hF
                                        have J443 : ∀ (H : Heap) (locs : List Loc) (ls : Array Slot), va_P D classes (wld ct ad G y15.1) H → va_D A (wld ct ad G y15.1) → va_S A s.heap H locs → lv_has ls 16 [(15, .int x21), (14, .int y16), (13, .int y14), (12, .int y12), (11, .int y10.1), (10, .int y6.2), (9, .int y4.2), (8, .int y2.2), (7, .int y1.2), (0, .ref (ad a)), (1, .int p0), (2, .int p1), (3, .int p2), (4, .int p3), (5, .int p4), (6, .int p5)] → W p l e (headSpec wuX9_guess ({ frames := 1, cells := 0, slots := 0, locals := 34 })).room s m ([.ref (ad a), .int p0, .int p1, .int p2, .int p3, .int p4, .int p5] : List Value).toArray below meth c H locs 0 0 (MQ below (va_Qv (fun (_ : Unit) => True) (fun _ t => kE D ct ad G A y t) A) ([.ref (ad a), .int p0, .int p1, .int p2, .int p3, .int p4, .int p5] : List Value).toArray s 0 0 A) (F0 m 301 ls [.int y443, .int p1, .ref (ad a)]) := by
                                          intro H locs ls hP hD hS hl
                                          obtain rfl := Option.some.inj hF
                                          exact J440 _ _ _ hP hD hS (lv_sub hl [0, 1, 2, 3, 4, 5, 6, 7, 8, 9, 10, 11, 12, 13, 14, 15] rfl)
                                        clear hF
                                        have hF := hy443
                                        clear hy443
                                        refine lv_if_eq (tgt := 299) hx hb dX9_guess_291 (by decide) (fun c444 => ?_) (fun c444 => ?_)
                                        · rw [if_pos c444] at hF
                                          refine lv_iload hx hb dX9_guess_299 (lv_at hl 4 rfl) ?_
                                          obtain rfl := Option.some.inj hF
                                          exact J443 _ _ _ hP hD hS (lv_sub hl [0, 1, 2, 3, 4, 5, 6, 7, 8, 9, 10, 11, 12, 13, 14, 15] rfl)
                                        · rw [if_neg c444] at hF
                                          refine lv_iload hx hb dX9_guess_294 (lv_at hl 5 rfl) ?_
                                          refine lv_goto (tgt := 301) hx hb dX9_guess_296 (by decide) ?_
                                          obtain rfl := Option.some.inj hF
                                          exact J443 _ _ _ hP hD hS (lv_sub hl [0, 1, 2, 3, 4, 5, 6, 7, 8, 9, 10, 11, 12, 13, 14, 15] rfl)
                                      · rw [if_neg c442] at hF
                                        refine lv_iload hx hb dX9_guess_284 (lv_at hl 6 rfl) ?_
                                        refine lv_goto (tgt := 301) hx hb dX9_guess_286 (by decide) ?_
                                        obtain rfl := Option.some.inj hF
                                        exact J440 _ _ _ hP hD hS (lv_sub hl [0, 1, 2, 3, 4, 5, 6, 7, 8, 9, 10, 11, 12, 13, 14, 15] rfl)
                                  · rw [if_neg c436] at hF
                                    refine lv_aload_n hx hb dX9_guess_261 rfl (lv_at hl 9 rfl) ?_
                                    refine lv_iload_n hx hb dX9_guess_262 rfl (lv_at hl 11 rfl) ?_
                                    refine lv_iload hx hb dX9_guess_263 (lv_at hl 6 rfl) ?_
                                    obtain ⟨y445, hy445, hF⟩ := bnd_some hF
                                    have hf9 := wA_in hD hA9 hS
                                    refine va_callv (va_runV (As := [.int p1, .int y4.2]) (rest := []) ⟨hx, hb, hml, hown, hts⟩ (kX9_adopt l D ct ad Z G y15.1 H.size a p1 y4.2 y445 hc hk hy445) (cwV 2 hts gX9_guess_X9_adopt rfl rfl rfl (by decide +kernel) ⟨Nat.le_of_ble_eq_true rfl, Nat.le_of_ble_eq_true rfl⟩) ⟨fun a U g mk q => by obtain ⟨q0, q1, qP, qK, qD, qZ, qN⟩ := q; exact ⟨q0, q1, qP, va_K.moved (u := U) (U := U.calling g mk a) (Vm.Alike.refl U.vm) qK, qD, sF.moved (u := U) (U := U.calling g mk a) (Vm.Alike.refl U.vm) qZ, nF.same rfl qN⟩, va_recv hK hP (ci := 9) (q0 := a) rfl (wld_o ct ad G y15.1 hc hk (by decide)), fun U hU hW => ⟨rfl, by rw [hU], by rw [hU]; exact hP, va_K.moved hW.alike hK, hD.weaken (fun _ _ _ _ => trivial), by rw [hU]; exact ((hZ.kept hS.2.1).narrow hf9).moved hW.alike, hN.warm hW⟩⟩ rfl rfl hl.1 rfl (lv_room (Nat.le_of_ble_eq_true rfl)) dX9_guess_265 ⟨(Nat.zero_le _), (Nat.zero_le _)⟩) hS (fun q _ h => hf9 q h) hf9 (fun u t H locs ht hvm hw hB hz1 hk1 hS => ?_)
                                    obtain ⟨hP, hK9, hD9⟩ := hB
                                    rw [ht] at hP
                                    have hD := hD9.weaken (fun _ q _ h => hf9 q.1 h)
                                    refine lv_goto (tgt := 318) hx hb dX9_guess_268 (by decide) ?_
                                    obtain rfl := Option.some.inj hF
                                    exact J435 _ _ _ hP hD hS (lv_sub hl [0, 1, 2, 3, 4, 5, 6, 7, 8, 9, 10, 11, 12, 13, 14, 15] rfl)
                            · rw [if_neg c414] at hF
                              refine lv_aload_n hx hb dX9_guess_236 rfl (lv_at hl 9 rfl) ?_
                              refine lv_iload_n hx hb dX9_guess_237 rfl (lv_at hl 11 rfl) ?_
                              refine lv_iload hx hb dX9_guess_238 (lv_at hl 4 rfl) ?_
                              obtain ⟨y446, hy446, hF⟩ := bnd_some hF
                              have hf9 := wA_in hD hA9 hS
                              refine va_callv (va_runV (As := [.int p1, .int y10.1]) (rest := []) ⟨hx, hb, hml, hown, hts⟩ (kX9_adopt l D ct ad Z G y15.1 H.size a p1 y10.1 y446 hc hk hy446) (cwV 2 hts gX9_guess_X9_adopt rfl rfl rfl (by decide +kernel) ⟨Nat.le_of_ble_eq_true rfl, Nat.le_of_ble_eq_true rfl⟩) ⟨fun a U g mk q => by obtain ⟨q0, q1, qP, qK, qD, qZ, qN⟩ := q; exact ⟨q0, q1, qP, va_K.moved (u := U) (U := U.calling g mk a) (Vm.Alike.refl U.vm) qK, qD, sF.moved (u := U) (U := U.calling g mk a) (Vm.Alike.refl U.vm) qZ, nF.same rfl qN⟩, va_recv hK hP (ci := 9) (q0 := a) rfl (wld_o ct ad G y15.1 hc hk (by decide)), fun U hU hW => ⟨rfl, by rw [hU], by rw [hU]; exact hP, va_K.moved hW.alike hK, hD.weaken (fun _ _ _ _ => trivial), by rw [hU]; exact ((hZ.kept hS.2.1).narrow hf9).moved hW.alike, hN.warm hW⟩⟩ rfl rfl hl.1 rfl (lv_room (Nat.le_of_ble_eq_true rfl)) dX9_guess_240 ⟨(Nat.zero_le _), (Nat.zero_le _)⟩) hS (fun q _ h => hf9 q h) hf9 (fun u t H locs ht hvm hw hB hz1 hk1 hS => ?_)
                              obtain ⟨hP, hK9, hD9⟩ := hB
                              rw [ht] at hP
                              have hD := hD9.weaken (fun _ q _ h => hf9 q.1 h)
                              refine lv_goto (tgt := 318) hx hb dX9_guess_243 (by decide) ?_
                              obtain rfl := Option.some.inj hF
                              exact J413 _ _ _ hP hD hS (lv_sub hl [0, 1, 2, 3, 4, 5, 6, 7, 8, 9, 10, 11, 12, 13, 14, 15] rfl)
                        · rw [if_neg c379] at hF
                          refine lv_aload_n hx hb dX9_guess_215 rfl (lv_at hl 9 rfl) ?_
                          refine lv_iload_n hx hb dX9_guess_216 rfl (lv_at hl 11 rfl) ?_
                          refine lv_iload hx hb dX9_guess_217 (lv_at hl 6 rfl) ?_
                          obtain ⟨y447, hy447, hF⟩ := bnd_some hF
                          have hf9 := wA_in hD hA9 hS
                          refine va_callv (va_runV (As := [.int p1, .int y4.2]) (rest := []) ⟨hx, hb, hml, hown, hts⟩ (kX9_adopt l D ct ad Z G y15.1 H.size a p1 y4.2 y447 hc hk hy447) (cwV 2 hts gX9_guess_X9_adopt rfl rfl rfl (by decide +kernel) ⟨Nat.le_of_ble_eq_true rfl, Nat.le_of_ble_eq_true rfl⟩) ⟨fun a U g mk q => by obtain ⟨q0, q1, qP, qK, qD, qZ, qN⟩ := q; exact ⟨q0, q1, qP, va_K.moved (u := U) (U := U.calling g mk a) (Vm.Alike.refl U.vm) qK, qD, sF.moved (u := U) (U := U.calling g mk a) (Vm.Alike.refl U.vm) qZ, nF.same rfl qN⟩, va_recv hK hP (ci := 9) (q0 := a) rfl (wld_o ct ad G y15.1 hc hk (by decide)), fun U hU hW => ⟨rfl, by rw [hU], by rw [hU]; exact hP, va_K.moved hW.alike hK, hD.weaken (fun _ _ _ _ => trivial), by rw [hU]; exact ((hZ.kept hS.2.1).narrow hf9).moved hW.alike, hN.warm hW⟩⟩ rfl rfl hl.1 rfl (lv_room (Nat.le_of_ble_eq_true rfl)) dX9_guess_219 ⟨(Nat.zero_le _), (Nat.zero_le _)⟩) hS (fun q _ h => hf9 q h) hf9 (fun u t H locs ht hvm hw hB hz1 hk1 hS => ?_)
                          obtain ⟨hP, hK9, hD9⟩ := hB
                          rw [ht] at hP
                          have hD := hD9.weaken (fun _ q _ h => hf9 q.1 h)
                          refine lv_goto (tgt := 318) hx hb dX9_guess_222 (by decide) ?_
                          obtain rfl := Option.some.inj hF
                          exact J378 _ _ _ hP hD hS (lv_sub hl [0, 1, 2, 3, 4, 5, 6, 7, 8, 9, 10, 11, 12, 13, 14, 15] rfl)
                  · rw [if_neg c236] at hF
                    refine lv_aload_n hx hb dX9_guess_188 rfl (lv_at hl 9 rfl) ?_
                    refine lv_iload_n hx hb dX9_guess_189 rfl (lv_at hl 11 rfl) ?_
                    refine lv_iload hx hb dX9_guess_190 (lv_at hl 5 rfl) ?_
                    obtain ⟨y448, hy448, hF⟩ := bnd_some hF
                    have hf9 := wA_in hD hA9 hS
                    refine va_callv (va_runV (As := [.int p1, .int y6.2]) (rest := []) ⟨hx, hb, hml, hown, hts⟩ (kX9_adopt l D ct ad Z G y15.1 H.size a p1 y6.2 y448 hc hk hy448) (cwV 2 hts gX9_guess_X9_adopt rfl rfl rfl (by decide +kernel) ⟨Nat.le_of_ble_eq_true rfl, Nat.le_of_ble_eq_true rfl⟩) ⟨fun a U g mk q => by obtain ⟨q0, q1, qP, qK, qD, qZ, qN⟩ := q; exact ⟨q0, q1, qP, va_K.moved (u := U) (U := U.calling g mk a) (Vm.Alike.refl U.vm) qK, qD, sF.moved (u := U) (U := U.calling g mk a) (Vm.Alike.refl U.vm) qZ, nF.same rfl qN⟩, va_recv hK hP (ci := 9) (q0 := a) rfl (wld_o ct ad G y15.1 hc hk (by decide)), fun U hU hW => ⟨rfl, by rw [hU], by rw [hU]; exact hP, va_K.moved hW.alike hK, hD.weaken (fun _ _ _ _ => trivial), by rw [hU]; exact ((hZ.kept hS.2.1).narrow hf9).moved hW.alike, hN.warm hW⟩⟩ rfl rfl hl.1 rfl (lv_room (Nat.le_of_ble_eq_true rfl)) dX9_guess_192 ⟨(Nat.zero_le _), (Nat.zero_le _)⟩) hS (fun q _ h => hf9 q h) hf9 (fun u t H locs ht hvm hw hB hz1 hk1 hS => ?_)
                    obtain ⟨hP, hK9, hD9⟩ := hB
                    rw [ht] at hP
                    have hD := hD9.weaken (fun _ q _ h => hf9 q.1 h)
                    refine lv_goto (tgt := 318) hx hb dX9_guess_195 (by decide) ?_
                    obtain rfl := Option.some.inj hF
                    exact J235 _ _ _ hP hD hS (lv_sub hl [0, 1, 2, 3, 4, 5, 6, 7, 8, 9, 10, 11, 12, 13, 14, 15] rfl)
              clear hF
              have hF := hy20
              clear hy20
              refine lv_if_eq (tgt := 173) hx hb dX9_guess_166 (by decide) (fun c449 => ?_) (fun c449 => ?_)
              · rw [if_pos c449] at hF
                refine lv_iconst (v := (0 : Int32)) hx hb dX9_guess_173 (by decide) ?_
                obtain rfl := Option.some.inj hF
                exact J20 _ _ _ hP hD hS (lv_sub hl [0, 1, 2, 3, 4, 5, 6, 7, 8, 9, 10, 11, 12, 13, 14] rfl)
              · rw [if_neg c449] at hF
                refine lv_iconst (v := (1 : Int32)) hx hb dX9_guess_169 (by decide) ?_
                refine lv_goto (tgt := 174) hx hb dX9_guess_170 (by decide) ?_
                obtain rfl := Option.some.inj hF
                exact J20 _ _ _ hP hD hS (lv_sub hl [0, 1, 2, 3, 4, 5, 6, 7, 8, 9, 10, 11, 12, 13, 14] rfl)
            clear hF
            have hF := hy18
            clear hy18
            refine lv_if_eq (tgt := 162) hx hb dX9_guess_155 (by decide) (fun c450 => ?_) (fun c450 => ?_)
            · rw [if_pos c450] at hF
              refine lv_iconst (v := (0 : Int32)) hx hb dX9_guess_162 (by decide) ?_
              obtain rfl := Option.some.inj hF
              exact J18 _ _ _ hP hD hS (lv_sub hl [0, 1, 2, 3, 4, 5, 6, 7, 8, 9, 10, 11, 12, 13, 14] rfl)
            · rw [if_neg c450] at hF
              refine lv_iconst (v := (1 : Int32)) hx hb dX9_guess_158 (by decide) ?_
              refine lv_goto (tgt := 163) hx hb dX9_guess_159 (by decide) ?_
              obtain rfl := Option.some.inj hF
              exact J18 _ _ _ hP hD hS (lv_sub hl [0, 1, 2, 3, 4, 5, 6, 7, 8, 9, 10, 11, 12, 13, 14] rfl)
          clear hF
          have hF := hy17
          clear hy17
          refine lv_if_eq (tgt := 152) hx hb dX9_guess_145 (by decide) (fun c451 => ?_) (fun c451 => ?_)
          · rw [if_pos c451] at hF
            refine lv_iconst (v := (0 : Int32)) hx hb dX9_guess_152 (by decide) ?_
            obtain rfl := Option.some.inj hF
            exact J17 _ _ _ hP hD hS (lv_sub hl [0, 1, 2, 3, 4, 5, 6, 7, 8, 9, 10, 11, 12, 13, 14] rfl)
          · rw [if_neg c451] at hF
            refine lv_iconst (v := (1 : Int32)) hx hb dX9_guess_148 (by decide) ?_
            refine lv_goto (tgt := 153) hx hb dX9_guess_149 (by decide) ?_
            obtain rfl := Option.some.inj hF
            exact J17 _ _ _ hP hD hS (lv_sub hl [0, 1, 2, 3, 4, 5, 6, 7, 8, 9, 10, 11, 12, 13, 14] rfl)
        clear hF
        have hF := hy16
        clear hy16
        refine lv_icmp_ne (tgt := 140) hx hb dX9_guess_133 (by decide) (fun c452 => ?_) (fun c452 => ?_)
        · rw [if_neg c452] at hF
          refine lv_iconst (v := (0 : Int32)) hx hb dX9_guess_140 (by decide) ?_
          obtain rfl := Option.some.inj hF
          exact J16 _ _ _ hP hD hS (lv_sub hl [0, 1, 2, 3, 4, 5, 6, 7, 8, 9, 10, 11, 12, 13] rfl)
        · rw [if_pos c452] at hF
          refine lv_iconst (v := (1 : Int32)) hx hb dX9_guess_136 (by decide) ?_
          refine lv_goto (tgt := 141) hx hb dX9_guess_137 (by decide) ?_
          obtain rfl := Option.some.inj hF
          exact J16 _ _ _ hP hD hS (lv_sub hl [0, 1, 2, 3, 4, 5, 6, 7, 8, 9, 10, 11, 12, 13] rfl)
      clear hF
      have hF := hy14
      clear hy14
      refine lv_icmp_ne (tgt := 122) hx hb dX9_guess_115 (by decide) (fun c453 => ?_) (fun c453 => ?_)
      · rw [if_neg c453] at hF
        refine lv_iconst (v := (0 : Int32)) hx hb dX9_guess_122 (by decide) ?_
        obtain rfl := Option.some.inj hF
        exact J14 _ _ _ hP hD hS (lv_sub hl [0, 1, 2, 3, 4, 5, 6, 7, 8, 9, 10, 11, 12] rfl)
      · rw [if_pos c453] at hF
        refine lv_iconst (v := (1 : Int32)) hx hb dX9_guess_118 (by decide) ?_
        refine lv_goto (tgt := 123) hx hb dX9_guess_119 (by decide) ?_
        obtain rfl := Option.some.inj hF
        exact J14 _ _ _ hP hD hS (lv_sub hl [0, 1, 2, 3, 4, 5, 6, 7, 8, 9, 10, 11, 12] rfl)
    clear hF
    have hF := hy12
    clear hy12
    refine lv_icmp_ne (tgt := 104) hx hb dX9_guess_97 (by decide) (fun c454 => ?_) (fun c454 => ?_)
    · rw [if_neg c454] at hF
      refine lv_iconst (v := (0 : Int32)) hx hb dX9_guess_104 (by decide) ?_
      obtain rfl := Option.some.inj hF
      exact J12 _ _ _ hP hD hS (lv_sub hl [0, 1, 2, 3, 4, 5, 6, 7, 8, 9, 10, 11] rfl)
    · rw [if_pos c454] at hF
      refine lv_iconst (v := (1 : Int32)) hx hb dX9_guess_100 (by decide) ?_
      refine lv_goto (tgt := 105) hx hb dX9_guess_101 (by decide) ?_
      obtain rfl := Option.some.inj hF
      exact J12 _ _ _ hP hD hS (lv_sub hl [0, 1, 2, 3, 4, 5, 6, 7, 8, 9, 10, 11] rfl)
  clear hF
  have hF := hy10
  clear hy10
  refine lv_if_ge (tgt := 85) hx hb dX9_guess_64 (by decide) (fun c455 => ?_) (fun c455 => ?_)
  · rw [if_pos c455] at hF
    refine lv_iload hx hb dX9_guess_85 (lv_at hl 0 rfl) ?_
    obtain rfl := Option.some.inj hF
    exact J10 _ _ _ hP hD hS (lv_sub hl [0, 1, 2, 3, 4, 5, 6, 7, 8, 9, 10, 11] rfl)
  · rw [if_neg c455] at hF
    refine lv_aload_n hx hb dX9_guess_67 rfl (lv_at hl 5 rfl) ?_
    refine lv_iload_n hx hb dX9_guess_68 rfl (lv_at hl 6 rfl) ?_
    refine lv_iload hx hb dX9_guess_69 (lv_at hl 4 rfl) ?_
    refine lv_iconst (v := (1 : Int32)) hx hb dX9_guess_71 (by decide) ?_
    refine lv_isub hx hb dX9_guess_72 ?_
    obtain ⟨x456, ex456, hF⟩ := ltt_some hF
    refine lv_topi (fun zx456 ezx456 => ?_)
    obtain rfl : x456 = zx456 := ex456.trans ezx456.symm
    refine lv_iload hx hb dX9_guess_73 (lv_at hl 3 rfl) ?_
    refine lv_iconst (v := (1 : Int32)) hx hb dX9_guess_75 (by decide) ?_
    refine lv_isub hx hb dX9_guess_76 ?_
    obtain ⟨x457, ex457, hF⟩ := ltt_some hF
    refine lv_topi (fun zx457 ezx457 => ?_)
    obtain rfl : x457 = zx457 := ex457.trans ezx457.symm
    refine lv_iload hx hb dX9_guess_77 (lv_at hl 9 rfl) ?_
    obtain ⟨y458, hy458, hF⟩ := bnd_some hF
    have hf9 := wA_in hD hA9 hS
    refine va_calli (va_runV (As := [.int p0, .int x456, .int x457, .int p3]) (rest := []) ⟨hx, hb, hml, hown, hts⟩ (kX9_pieceAt l D ct ad Z G y9.1 H.size a p0 x456 x457 p3 y458 hc hk hy458) (cwV 4 hts gX9_guess_X9_pieceAt rfl rfl rfl (by decide +kernel) ⟨Nat.le_of_ble_eq_true rfl, Nat.le_of_ble_eq_true rfl⟩) ⟨fun a U g mk q => by obtain ⟨q0, q1, qP, qK, qD, qZ, qN⟩ := q; exact ⟨q0, q1, qP, va_K.moved (u := U) (U := U.calling g mk a) (Vm.Alike.refl U.vm) qK, qD, sF.moved (u := U) (U := U.calling g mk a) (Vm.Alike.refl U.vm) qZ, nF.same rfl qN⟩, va_recv hK hP (ci := 9) (q0 := a) rfl (wld_o ct ad G y9.1 hc hk (by decide)), fun U hU hW => ⟨rfl, by rw [hU], by rw [hU]; exact hP, va_K.moved hW.alike hK, hD.weaken (fun _ _ _ _ => trivial), by rw [hU]; exact ((hZ.kept hS.2.1).narrow hf9).moved hW.alike, hN.warm hW⟩⟩ rfl rfl hl.1 rfl (lv_room (Nat.le_of_ble_eq_true rfl)) dX9_guess_79 ⟨(Nat.zero_le _), (Nat.zero_le _)⟩) hS (fun q _ h => hf9 q h) hf9 (fun r u t H locs ht hvm hw hB hz1 hk1 hS => ?_)
    obtain ⟨hP, hK9, hD9⟩ := hB
    rw [ht] at hP
    try dsimp only at hw
    subst hw
    have hD := hD9.weaken (fun _ q _ h => hf9 q.1 h)
    refine lv_goto (tgt := 87) hx hb dX9_guess_82 (by decide) ?_
    obtain rfl := Option.some.inj hF
    exact J10 _ _ _ hP hD hS (lv_sub hl [0, 1, 2, 3, 4, 5, 6, 7, 8, 9, 10, 11] rfl)
