theorem ggX7_orderOf_X3_isOwn : GoodIn wsX7_orderOf wsX3_isOwn := goodIn_r _ [10, 11, 19, 20, 21, 22] (by decide +kernel) (by decide +kernel)
set_option maxRecDepth 20000 in
theorem gX7_orderOf_X3_isOwn : GoodIn wsX7_orderOf (wsV RX7 78 RX3 yX3_isOwn wsX3_isOwn) := goodIn_app (goodIn_of _ (by decide +kernel)) ggX7_orderOf_X3_isOwn
set_option maxRecDepth 20000 in
theorem ggX7_orderOf_X7_orderByLow : GoodIn wsX7_orderOf wsX7_orderByLow := goodIn_r _ [16, 17, 18, 2, 23, 24, 25, 26, 27, 28, 29, 30, 31, 32, 33, 34, 35, 36, 37, 38, 39] (by decide +kernel) (by decide +kernel)
set_option maxRecDepth 20000 in
theorem gX7_orderOf_X7_orderByLow : GoodIn wsX7_orderOf (wsV RX7 88 RX7 yX7_orderByLow wsX7_orderByLow) := goodIn_app (goodIn_of _ (by decide +kernel)) ggX7_orderOf_X7_orderByLow
theorem dX7_orderOf_0 : decode cX7_orderOf 0 = .ok (.aload_n 1, 1) := by decide +kernel
theorem dX7_orderOf_1 : decode cX7_orderOf 1 = .ok (.getfield 73, 3) := by decide +kernel
theorem dX7_orderOf_4 : decode cX7_orderOf 4 = .ok (.astore_n 3, 1) := by decide +kernel
theorem dX7_orderOf_5 : decode cX7_orderOf 5 = .ok (.aload_n 1, 1) := by decide +kernel
theorem dX7_orderOf_6 : decode cX7_orderOf 6 = .ok (.invokevirtual 78, 3) := by decide +kernel
theorem dX7_orderOf_9 : decode cX7_orderOf 9 = .ok (.istore 4, 2) := by decide +kernel
theorem dX7_orderOf_11 : decode cX7_orderOf 11 = .ok (.aload_n 3, 1) := by decide +kernel
theorem dX7_orderOf_12 : decode cX7_orderOf 12 = .ok (.bipush 11, 2) := by decide +kernel
theorem dX7_orderOf_14 : decode cX7_orderOf 14 = .ok (.iaload, 1) := by decide +kernel
theorem dX7_orderOf_15 : decode cX7_orderOf 15 = .ok (.ifCond .ne 7, 3) := by decide +kernel
theorem dX7_orderOf_18 : decode cX7_orderOf 18 = .ok (.iconst 1, 1) := by decide +kernel
theorem dX7_orderOf_19 : decode cX7_orderOf 19 = .ok (.goto 4, 3) := by decide +kernel
theorem dX7_orderOf_22 : decode cX7_orderOf 22 = .ok (.iconst 0, 1) := by decide +kernel
theorem dX7_orderOf_23 : decode cX7_orderOf 23 = .ok (.istore 5, 2) := by decide +kernel
theorem dX7_orderOf_25 : decode cX7_orderOf 25 = .ok (.aload_n 0, 1) := by decide +kernel
theorem dX7_orderOf_26 : decode cX7_orderOf 26 = .ok (.iconst 0, 1) := by decide +kernel
theorem dX7_orderOf_27 : decode cX7_orderOf 27 = .ok (.putfield 82, 3) := by decide +kernel
theorem dX7_orderOf_30 : decode cX7_orderOf 30 = .ok (.aload_n 0, 1) := by decide +kernel
theorem dX7_orderOf_31 : decode cX7_orderOf 31 = .ok (.iload 4, 2) := by decide +kernel
theorem dX7_orderOf_33 : decode cX7_orderOf 33 = .ok (.ifCond .eq 7, 3) := by decide +kernel
theorem dX7_orderOf_36 : decode cX7_orderOf 36 = .ok (.iconst 0, 1) := by decide +kernel
theorem dX7_orderOf_37 : decode cX7_orderOf 37 = .ok (.goto 27, 3) := by decide +kernel
theorem dX7_orderOf_40 : decode cX7_orderOf 40 = .ok (.aload_n 0, 1) := by decide +kernel
theorem dX7_orderOf_41 : decode cX7_orderOf 41 = .ok (.getfield 52, 3) := by decide +kernel
theorem dX7_orderOf_44 : decode cX7_orderOf 44 = .ok (.aload_n 0, 1) := by decide +kernel
theorem dX7_orderOf_45 : decode cX7_orderOf 45 = .ok (.getfield 55, 3) := by decide +kernel
theorem dX7_orderOf_48 : decode cX7_orderOf 48 = .ok (.aload_n 3, 1) := by decide +kernel
theorem dX7_orderOf_49 : decode cX7_orderOf 49 = .ok (.iconst 3, 1) := by decide +kernel
theorem dX7_orderOf_50 : decode cX7_orderOf 50 = .ok (.iaload, 1) := by decide +kernel
theorem dX7_orderOf_51 : decode cX7_orderOf 51 = .ok (.if_icmp .le 11, 3) := by decide +kernel
theorem dX7_orderOf_54 : decode cX7_orderOf 54 = .ok (.iconst 1, 1) := by decide +kernel
theorem dX7_orderOf_55 : decode cX7_orderOf 55 = .ok (.aload_n 2, 1) := by decide +kernel
theorem dX7_orderOf_56 : decode cX7_orderOf 56 = .ok (.iconst 2, 1) := by decide +kernel
theorem dX7_orderOf_57 : decode cX7_orderOf 57 = .ok (.iaload, 1) := by decide +kernel
theorem dX7_orderOf_58 : decode cX7_orderOf 58 = .ok (.ishl, 1) := by decide +kernel
theorem dX7_orderOf_59 : decode cX7_orderOf 59 = .ok (.goto 4, 3) := by decide +kernel
theorem dX7_orderOf_62 : decode cX7_orderOf 62 = .ok (.iconst 0, 1) := by decide +kernel
theorem dX7_orderOf_63 : decode cX7_orderOf 63 = .ok (.iadd, 1) := by decide +kernel
theorem dX7_orderOf_64 : decode cX7_orderOf 64 = .ok (.putfield 85, 3) := by decide +kernel
theorem dX7_orderOf_67 : decode cX7_orderOf 67 = .ok (.aload_n 2, 1) := by decide +kernel
theorem dX7_orderOf_68 : decode cX7_orderOf 68 = .ok (.iconst 3, 1) := by decide +kernel
theorem dX7_orderOf_69 : decode cX7_orderOf 69 = .ok (.iaload, 1) := by decide +kernel
theorem dX7_orderOf_70 : decode cX7_orderOf 70 = .ok (.ifCond .ne 16, 3) := by decide +kernel
theorem dX7_orderOf_73 : decode cX7_orderOf 73 = .ok (.aload_n 0, 1) := by decide +kernel
theorem dX7_orderOf_74 : decode cX7_orderOf 74 = .ok (.aload_n 3, 1) := by decide +kernel
theorem dX7_orderOf_75 : decode cX7_orderOf 75 = .ok (.iconst 1, 1) := by decide +kernel
theorem dX7_orderOf_76 : decode cX7_orderOf 76 = .ok (.aload_n 2, 1) := by decide +kernel
theorem dX7_orderOf_77 : decode cX7_orderOf 77 = .ok (.iconst 4, 1) := by decide +kernel
theorem dX7_orderOf_78 : decode cX7_orderOf 78 = .ok (.iaload, 1) := by decide +kernel
theorem dX7_orderOf_79 : decode cX7_orderOf 79 = .ok (.ishl, 1) := by decide +kernel
theorem dX7_orderOf_80 : decode cX7_orderOf 80 = .ok (.iload 4, 2) := by decide +kernel
theorem dX7_orderOf_82 : decode cX7_orderOf 82 = .ok (.invokevirtual 88, 3) := by decide +kernel
theorem dX7_orderOf_85 : decode cX7_orderOf 85 = .ok (.ireturn, 1) := by decide +kernel
theorem dX7_orderOf_86 : decode cX7_orderOf 86 = .ok (.aload_n 2, 1) := by decide +kernel
theorem dX7_orderOf_87 : decode cX7_orderOf 87 = .ok (.iconst 3, 1) := by decide +kernel
theorem dX7_orderOf_88 : decode cX7_orderOf 88 = .ok (.iaload, 1) := by decide +kernel
theorem dX7_orderOf_89 : decode cX7_orderOf 89 = .ok (.iconst 2, 1) := by decide +kernel
theorem dX7_orderOf_90 : decode cX7_orderOf 90 = .ok (.if_icmp .ne 26, 3) := by decide +kernel
theorem dX7_orderOf_93 : decode cX7_orderOf 93 = .ok (.iload 4, 2) := by decide +kernel
theorem dX7_orderOf_95 : decode cX7_orderOf 95 = .ok (.ifCond .eq 7, 3) := by decide +kernel
theorem dX7_orderOf_98 : decode cX7_orderOf 98 = .ok (.iconst 0, 1) := by decide +kernel
theorem dX7_orderOf_99 : decode cX7_orderOf 99 = .ok (.goto 16, 3) := by decide +kernel
theorem dX7_orderOf_102 : decode cX7_orderOf 102 = .ok (.iconst 2, 1) := by decide +kernel
theorem dX7_orderOf_103 : decode cX7_orderOf 103 = .ok (.aload_n 0, 1) := by decide +kernel
theorem dX7_orderOf_104 : decode cX7_orderOf 104 = .ok (.getfield 85, 3) := by decide +kernel
theorem dX7_orderOf_107 : decode cX7_orderOf 107 = .ok (.aload_n 3, 1) := by decide +kernel
theorem dX7_orderOf_108 : decode cX7_orderOf 108 = .ok (.iconst 3, 1) := by decide +kernel
theorem dX7_orderOf_109 : decode cX7_orderOf 109 = .ok (.iaload, 1) := by decide +kernel
theorem dX7_orderOf_110 : decode cX7_orderOf 110 = .ok (.iadd, 1) := by decide +kernel
theorem dX7_orderOf_111 : decode cX7_orderOf 111 = .ok (.imul, 1) := by decide +kernel
theorem dX7_orderOf_112 : decode cX7_orderOf 112 = .ok (.iload 5, 2) := by decide +kernel
theorem dX7_orderOf_114 : decode cX7_orderOf 114 = .ok (.isub, 1) := by decide +kernel
theorem dX7_orderOf_115 : decode cX7_orderOf 115 = .ok (.ireturn, 1) := by decide +kernel
theorem dX7_orderOf_116 : decode cX7_orderOf 116 = .ok (.aload_n 2, 1) := by decide +kernel
theorem dX7_orderOf_117 : decode cX7_orderOf 117 = .ok (.bipush 14, 2) := by decide +kernel
theorem dX7_orderOf_119 : decode cX7_orderOf 119 = .ok (.iaload, 1) := by decide +kernel
theorem dX7_orderOf_120 : decode cX7_orderOf 120 = .ok (.istore 6, 2) := by decide +kernel
theorem dX7_orderOf_122 : decode cX7_orderOf 122 = .ok (.iload 6, 2) := by decide +kernel
theorem dX7_orderOf_124 : decode cX7_orderOf 124 = .ok (.ifCond .ne 7, 3) := by decide +kernel
theorem dX7_orderOf_127 : decode cX7_orderOf 127 = .ok (.iconst 0, 1) := by decide +kernel
theorem dX7_orderOf_128 : decode cX7_orderOf 128 = .ok (.goto 11, 3) := by decide +kernel
theorem dX7_orderOf_131 : decode cX7_orderOf 131 = .ok (.aload_n 0, 1) := by decide +kernel
theorem dX7_orderOf_132 : decode cX7_orderOf 132 = .ok (.getfield 85, 3) := by decide +kernel
theorem dX7_orderOf_135 : decode cX7_orderOf 135 = .ok (.aload_n 3, 1) := by decide +kernel
theorem dX7_orderOf_136 : decode cX7_orderOf 136 = .ok (.iconst 3, 1) := by decide +kernel
theorem dX7_orderOf_137 : decode cX7_orderOf 137 = .ok (.iaload, 1) := by decide +kernel
theorem dX7_orderOf_138 : decode cX7_orderOf 138 = .ok (.iadd, 1) := by decide +kernel
theorem dX7_orderOf_139 : decode cX7_orderOf 139 = .ok (.istore 7, 2) := by decide +kernel
theorem dX7_orderOf_141 : decode cX7_orderOf 141 = .ok (.iload 7, 2) := by decide +kernel
theorem dX7_orderOf_143 : decode cX7_orderOf 143 = .ok (.iload 7, 2) := by decide +kernel
theorem dX7_orderOf_145 : decode cX7_orderOf 145 = .ok (.ifCond .le 8, 3) := by decide +kernel
theorem dX7_orderOf_148 : decode cX7_orderOf 148 = .ok (.iload 5, 2) := by decide +kernel
theorem dX7_orderOf_150 : decode cX7_orderOf 150 = .ok (.goto 4, 3) := by decide +kernel
theorem dX7_orderOf_153 : decode cX7_orderOf 153 = .ok (.iconst 0, 1) := by decide +kernel
theorem dX7_orderOf_154 : decode cX7_orderOf 154 = .ok (.isub, 1) := by decide +kernel
theorem dX7_orderOf_155 : decode cX7_orderOf 155 = .ok (.istore 7, 2) := by decide +kernel
theorem dX7_orderOf_157 : decode cX7_orderOf 157 = .ok (.iconst 0, 1) := by decide +kernel
theorem dX7_orderOf_158 : decode cX7_orderOf 158 = .ok (.istore 8, 2) := by decide +kernel
theorem dX7_orderOf_160 : decode cX7_orderOf 160 = .ok (.iload 7, 2) := by decide +kernel
theorem dX7_orderOf_162 : decode cX7_orderOf 162 = .ok (.ifCond .le 95, 3) := by decide +kernel
theorem dX7_orderOf_165 : decode cX7_orderOf 165 = .ok (.iload 6, 2) := by decide +kernel
theorem dX7_orderOf_167 : decode cX7_orderOf 167 = .ok (.ifCond .le 90, 3) := by decide +kernel
theorem dX7_orderOf_170 : decode cX7_orderOf 170 = .ok (.iconst 0, 1) := by decide +kernel
theorem dX7_orderOf_171 : decode cX7_orderOf 171 = .ok (.istore 9, 2) := by decide +kernel
theorem dX7_orderOf_173 : decode cX7_orderOf 173 = .ok (.iconst 0, 1) := by decide +kernel
theorem dX7_orderOf_174 : decode cX7_orderOf 174 = .ok (.istore 10, 2) := by decide +kernel
theorem dX7_orderOf_176 : decode cX7_orderOf 176 = .ok (.iconst 0, 1) := by decide +kernel
theorem dX7_orderOf_177 : decode cX7_orderOf 177 = .ok (.istore 11, 2) := by decide +kernel
theorem dX7_orderOf_179 : decode cX7_orderOf 179 = .ok (.iload 11, 2) := by decide +kernel
theorem dX7_orderOf_181 : decode cX7_orderOf 181 = .ok (.iload 6, 2) := by decide +kernel
theorem dX7_orderOf_183 : decode cX7_orderOf 183 = .ok (.if_icmp .ge 59, 3) := by decide +kernel
theorem dX7_orderOf_186 : decode cX7_orderOf 186 = .ok (.bipush 15, 2) := by decide +kernel
theorem dX7_orderOf_188 : decode cX7_orderOf 188 = .ok (.iload 11, 2) := by decide +kernel
theorem dX7_orderOf_190 : decode cX7_orderOf 190 = .ok (.iadd, 1) := by decide +kernel
theorem dX7_orderOf_191 : decode cX7_orderOf 191 = .ok (.bipush 23, 2) := by decide +kernel
theorem dX7_orderOf_193 : decode cX7_orderOf 193 = .ok (.if_icmp .ge 49, 3) := by decide +kernel
theorem dX7_orderOf_196 : decode cX7_orderOf 196 = .ok (.iload 9, 2) := by decide +kernel
theorem dX7_orderOf_198 : decode cX7_orderOf 198 = .ok (.aload_n 2, 1) := by decide +kernel
theorem dX7_orderOf_199 : decode cX7_orderOf 199 = .ok (.bipush 15, 2) := by decide +kernel
theorem dX7_orderOf_201 : decode cX7_orderOf 201 = .ok (.iload 11, 2) := by decide +kernel
theorem dX7_orderOf_203 : decode cX7_orderOf 203 = .ok (.iadd, 1) := by decide +kernel
theorem dX7_orderOf_204 : decode cX7_orderOf 204 = .ok (.iaload, 1) := by decide +kernel
theorem dX7_orderOf_205 : decode cX7_orderOf 205 = .ok (.iadd, 1) := by decide +kernel
theorem dX7_orderOf_206 : decode cX7_orderOf 206 = .ok (.istore 9, 2) := by decide +kernel
theorem dX7_orderOf_208 : decode cX7_orderOf 208 = .ok (.iload 10, 2) := by decide +kernel
theorem dX7_orderOf_210 : decode cX7_orderOf 210 = .ok (.iload 11, 2) := by decide +kernel
theorem dX7_orderOf_212 : decode cX7_orderOf 212 = .ok (.iload 7, 2) := by decide +kernel
theorem dX7_orderOf_214 : decode cX7_orderOf 214 = .ok (.iconst 1, 1) := by decide +kernel
theorem dX7_orderOf_215 : decode cX7_orderOf 215 = .ok (.isub, 1) := by decide +kernel
theorem dX7_orderOf_216 : decode cX7_orderOf 216 = .ok (.iload 6, 2) := by decide +kernel
theorem dX7_orderOf_218 : decode cX7_orderOf 218 = .ok (.irem, 1) := by decide +kernel
theorem dX7_orderOf_219 : decode cX7_orderOf 219 = .ok (.if_icmp .gt 13, 3) := by decide +kernel
theorem dX7_orderOf_222 : decode cX7_orderOf 222 = .ok (.aload_n 2, 1) := by decide +kernel
theorem dX7_orderOf_223 : decode cX7_orderOf 223 = .ok (.bipush 15, 2) := by decide +kernel
theorem dX7_orderOf_225 : decode cX7_orderOf 225 = .ok (.iload 11, 2) := by decide +kernel
theorem dX7_orderOf_227 : decode cX7_orderOf 227 = .ok (.iadd, 1) := by decide +kernel
theorem dX7_orderOf_228 : decode cX7_orderOf 228 = .ok (.iaload, 1) := by decide +kernel
theorem dX7_orderOf_229 : decode cX7_orderOf 229 = .ok (.goto 4, 3) := by decide +kernel
theorem dX7_orderOf_232 : decode cX7_orderOf 232 = .ok (.iconst 0, 1) := by decide +kernel
theorem dX7_orderOf_233 : decode cX7_orderOf 233 = .ok (.iadd, 1) := by decide +kernel
theorem dX7_orderOf_234 : decode cX7_orderOf 234 = .ok (.istore 10, 2) := by decide +kernel
theorem dX7_orderOf_236 : decode cX7_orderOf 236 = .ok (.iinc 11 1, 3) := by decide +kernel
theorem dX7_orderOf_239 : decode cX7_orderOf 239 = .ok (.goto (-60), 3) := by decide +kernel
theorem dX7_orderOf_242 : decode cX7_orderOf 242 = .ok (.iload 7, 2) := by decide +kernel
theorem dX7_orderOf_244 : decode cX7_orderOf 244 = .ok (.iconst 1, 1) := by decide +kernel
theorem dX7_orderOf_245 : decode cX7_orderOf 245 = .ok (.isub, 1) := by decide +kernel
theorem dX7_orderOf_246 : decode cX7_orderOf 246 = .ok (.iload 6, 2) := by decide +kernel
theorem dX7_orderOf_248 : decode cX7_orderOf 248 = .ok (.idiv, 1) := by decide +kernel
theorem dX7_orderOf_249 : decode cX7_orderOf 249 = .ok (.iload 9, 2) := by decide +kernel
theorem dX7_orderOf_251 : decode cX7_orderOf 251 = .ok (.imul, 1) := by decide +kernel
theorem dX7_orderOf_252 : decode cX7_orderOf 252 = .ok (.iload 10, 2) := by decide +kernel
theorem dX7_orderOf_254 : decode cX7_orderOf 254 = .ok (.iadd, 1) := by decide +kernel
theorem dX7_orderOf_255 : decode cX7_orderOf 255 = .ok (.istore 8, 2) := by decide +kernel
theorem dX7_orderOf_257 : decode cX7_orderOf 257 = .ok (.iload 8, 2) := by decide +kernel
theorem dX7_orderOf_259 : decode cX7_orderOf 259 = .ok (.iload 5, 2) := by decide +kernel
theorem dX7_orderOf_261 : decode cX7_orderOf 261 = .ok (.iconst 1, 1) := by decide +kernel
theorem dX7_orderOf_262 : decode cX7_orderOf 262 = .ok (.if_icmp .ne 10, 3) := by decide +kernel
theorem dX7_orderOf_265 : decode cX7_orderOf 265 = .ok (.aload_n 2, 1) := by decide +kernel
theorem dX7_orderOf_266 : decode cX7_orderOf 266 = .ok (.bipush 12, 2) := by decide +kernel
theorem dX7_orderOf_268 : decode cX7_orderOf 268 = .ok (.iaload, 1) := by decide +kernel
theorem dX7_orderOf_269 : decode cX7_orderOf 269 = .ok (.goto 4, 3) := by decide +kernel
theorem dX7_orderOf_272 : decode cX7_orderOf 272 = .ok (.iconst 0, 1) := by decide +kernel
theorem dX7_orderOf_273 : decode cX7_orderOf 273 = .ok (.iadd, 1) := by decide +kernel
theorem dX7_orderOf_274 : decode cX7_orderOf 274 = .ok (.istore 8, 2) := by decide +kernel
theorem dX7_orderOf_276 : decode cX7_orderOf 276 = .ok (.iload 8, 2) := by decide +kernel
theorem dX7_orderOf_278 : decode cX7_orderOf 278 = .ok (.aload_n 3, 1) := by decide +kernel
theorem dX7_orderOf_279 : decode cX7_orderOf 279 = .ok (.bipush 6, 2) := by decide +kernel
theorem dX7_orderOf_281 : decode cX7_orderOf 281 = .ok (.iaload, 1) := by decide +kernel
theorem dX7_orderOf_282 : decode cX7_orderOf 282 = .ok (.iadd, 1) := by decide +kernel
theorem dX7_orderOf_283 : decode cX7_orderOf 283 = .ok (.istore 9, 2) := by decide +kernel
theorem dX7_orderOf_285 : decode cX7_orderOf 285 = .ok (.iload 9, 2) := by decide +kernel
theorem dX7_orderOf_287 : decode cX7_orderOf 287 = .ok (.aload_n 2, 1) := by decide +kernel
theorem dX7_orderOf_288 : decode cX7_orderOf 288 = .ok (.bipush 13, 2) := by decide +kernel
theorem dX7_orderOf_290 : decode cX7_orderOf 290 = .ok (.iaload, 1) := by decide +kernel
theorem dX7_orderOf_291 : decode cX7_orderOf 291 = .ok (.iadd, 1) := by decide +kernel
theorem dX7_orderOf_292 : decode cX7_orderOf 292 = .ok (.aload_n 3, 1) := by decide +kernel
theorem dX7_orderOf_293 : decode cX7_orderOf 293 = .ok (.bipush 7, 2) := by decide +kernel
theorem dX7_orderOf_295 : decode cX7_orderOf 295 = .ok (.iaload, 1) := by decide +kernel
theorem dX7_orderOf_296 : decode cX7_orderOf 296 = .ok (.iadd, 1) := by decide +kernel
theorem dX7_orderOf_297 : decode cX7_orderOf 297 = .ok (.istore 10, 2) := by decide +kernel
theorem dX7_orderOf_299 : decode cX7_orderOf 299 = .ok (.iload 9, 2) := by decide +kernel
theorem dX7_orderOf_301 : decode cX7_orderOf 301 = .ok (.iload 10, 2) := by decide +kernel
theorem dX7_orderOf_303 : decode cX7_orderOf 303 = .ok (.if_icmp .ge 8, 3) := by decide +kernel
theorem dX7_orderOf_306 : decode cX7_orderOf 306 = .ok (.iload 9, 2) := by decide +kernel
theorem dX7_orderOf_308 : decode cX7_orderOf 308 = .ok (.goto 5, 3) := by decide +kernel
theorem dX7_orderOf_311 : decode cX7_orderOf 311 = .ok (.iload 10, 2) := by decide +kernel
theorem dX7_orderOf_313 : decode cX7_orderOf 313 = .ok (.ireturn, 1) := by decide +kernel
def FX7_orderOf (G : GG) (M : DD) (a : Nat) (p0 : Option Nat) (p1 : Option Nat) : Option (DD × Int32) :=
  dr G 3 p0 fun b1 =>
  bnd (FX3_isOwn G M b1) fun y2 =>
  dr G 13 ((M.2 b1 0)) fun b3 =>
  chk (¬ (((11 : Int32)) < 0 ∨ G.2.2 b3 ≤ ((11 : Int32)).toNatClampNeg)) <|
  ltt (y2.1.1 b3 ((11 : Int32)).toNatClampNeg) fun x4 =>
  bnd (if x4 = ((0 : Int32)) then (some ((1 : Int32))) else
  (some ((0 : Int32)))) fun (y5 : Int32) =>
  ltt (uI y2.1 a 12 ((0 : Int32))) fun M6 =>
  bnd (if y2.2 = ((0 : Int32)) then (ltt (M6.1 a 10) fun x72 =>
  ltt (M6.1 a 11) fun x73 =>
  chk (¬ (((3 : Int32)) < 0 ∨ G.2.2 b3 ≤ ((3 : Int32)).toNatClampNeg)) <|
  ltt (M6.1 b3 ((3 : Int32)).toNatClampNeg) fun x74 =>
  bnd (if x73 ≤ x74 then (some ((0 : Int32))) else
  (dr G 13 p1 fun b78 =>
  chk (¬ (((2 : Int32)) < 0 ∨ G.2.2 b78 ≤ ((2 : Int32)).toNatClampNeg)) <|
  ltt (M6.1 b78 ((2 : Int32)).toNatClampNeg) fun x79 =>
  ltt ((((1 : Int32)) <<< (x79 &&& 31))) fun x80 =>
  some (x80))) fun (y75 : Int32) =>
  ltt ((x72 + y75)) fun x76 =>
  some (x76)) else
  (some ((0 : Int32)))) fun (y7 : Int32) =>
  ltt (uI M6 a 13 y7) fun M8 =>
  dr G 13 p1 fun b9 =>
  chk (¬ (((3 : Int32)) < 0 ∨ G.2.2 b9 ≤ ((3 : Int32)).toNatClampNeg)) <|
  ltt (M8.1 b9 ((3 : Int32)).toNatClampNeg) fun x10 =>
  if x10 = ((0 : Int32)) then (chk (¬ (((4 : Int32)) < 0 ∨ G.2.2 b9 ≤ ((4 : Int32)).toNatClampNeg)) <|
  ltt (M8.1 b9 ((4 : Int32)).toNatClampNeg) fun x68 =>
  ltt ((((1 : Int32)) <<< (x68 &&& 31))) fun x69 =>
  bnd (FX7_orderByLow G M8 a ((M.2 b1 0)) x69 y2.2) fun y70 =>
  some (y70.1, y70.2)) else
  (chk (¬ (((3 : Int32)) < 0 ∨ G.2.2 b9 ≤ ((3 : Int32)).toNatClampNeg)) <|
  ltt (M8.1 b9 ((3 : Int32)).toNatClampNeg) fun x12 =>
  if x12 = ((2 : Int32)) then (bnd (if y2.2 = ((0 : Int32)) then (ltt (M8.1 a 13) fun x63 =>
  chk (¬ (((3 : Int32)) < 0 ∨ G.2.2 b3 ≤ ((3 : Int32)).toNatClampNeg)) <|
  ltt (M8.1 b3 ((3 : Int32)).toNatClampNeg) fun x64 =>
  ltt ((x63 + x64)) fun x65 =>
  ltt ((((2 : Int32)) * x65)) fun x66 =>
  ltt ((x66 - y5)) fun x67 =>
  some (x67)) else
  (some ((0 : Int32)))) fun (y61 : Int32) =>
  some (M8, y61)) else
  (chk (¬ (((14 : Int32)) < 0 ∨ G.2.2 b9 ≤ ((14 : Int32)).toNatClampNeg)) <|
  ltt (M8.1 b9 ((14 : Int32)).toNatClampNeg) fun x14 =>
  bnd (if x14 = ((0 : Int32)) then (some ((0 : Int32))) else
  (ltt (M8.1 a 13) fun x58 =>
  chk (¬ (((3 : Int32)) < 0 ∨ G.2.2 b3 ≤ ((3 : Int32)).toNatClampNeg)) <|
  ltt (M8.1 b3 ((3 : Int32)).toNatClampNeg) fun x59 =>
  ltt ((x58 + x59)) fun x60 =>
  some (x60))) fun (y15 : Int32) =>
  bnd (if y15 ≤ ((0 : Int32)) then (some ((0 : Int32))) else
  (some (y5))) fun (y16 : Int32) =>
  ltt ((y15 - y16)) fun x17 =>
  bnd (if x17 ≤ ((0 : Int32)) then (some ((0 : Int32))) else
  (bnd (if x14 ≤ ((0 : Int32)) then (some ((0 : Int32))) else
  (bnd (itr (fun (s35 : Int32 × Int32 × Int32) => ((if x14 ≤ s35.2.2 then (some (.inr (s35.1, s35.2.1, s35.2.2))) else
  (ltt ((((15 : Int32)) + s35.2.2)) fun x43 =>
  if ((23 : Int32)) ≤ x43 then (some (.inr (s35.1, s35.2.1, s35.2.2))) else
  (ltt ((((15 : Int32)) + s35.2.2)) fun x45 =>
  chk (¬ (x45 < 0 ∨ G.2.2 b9 ≤ x45.toNatClampNeg)) <|
  ltt (M8.1 b9 x45.toNatClampNeg) fun x46 =>
  ltt ((s35.1 + x46)) fun x47 =>
  ltt ((x17 - ((1 : Int32)))) fun x48 =>
  chk (¬ x14 = 0) <|
  ltt (x48 - x48 / x14 * x14) fun x49 =>
  bnd (if x49 < s35.2.2 then (some ((0 : Int32))) else
  (ltt ((((15 : Int32)) + s35.2.2)) fun x54 =>
  chk (¬ (x54 < 0 ∨ G.2.2 b9 ≤ x54.toNatClampNeg)) <|
  ltt (M8.1 b9 x54.toNatClampNeg) fun x55 =>
  some (x55))) fun (y50 : Int32) =>
  ltt ((s35.2.1 + y50)) fun x51 =>
  ltt (s35.2.2 + (1 : Int32)) fun x52 =>
  some (.inl (x47, x51, x52))))) : Option ((Int32 × Int32 × Int32) ⊕ (Int32 × Int32 × Int32)))) 1000000 ((0 : Int32), (0 : Int32), (0 : Int32))) fun (y34 : Int32 × Int32 × Int32) =>
  ltt ((x17 - ((1 : Int32)))) fun x37 =>
  chk (¬ x14 = 0) <|
  ltt (x37 / x14) fun x38 =>
  ltt ((x38 * y34.1)) fun x39 =>
  ltt ((x39 + y34.2.1)) fun x40 =>
  some (x40))) fun (y32 : Int32) =>
  some (y32))) fun (y18 : Int32) =>
  bnd (if y5 = ((1 : Int32)) then (chk (¬ (((12 : Int32)) < 0 ∨ G.2.2 b9 ≤ ((12 : Int32)).toNatClampNeg)) <|
  ltt (M8.1 b9 ((12 : Int32)).toNatClampNeg) fun x30 =>
  some (x30)) else
  (some ((0 : Int32)))) fun (y19 : Int32) =>
  ltt ((y18 + y19)) fun x20 =>
  chk (¬ (((6 : Int32)) < 0 ∨ G.2.2 b3 ≤ ((6 : Int32)).toNatClampNeg)) <|
  ltt (M8.1 b3 ((6 : Int32)).toNatClampNeg) fun x21 =>
  ltt ((x20 + x21)) fun x22 =>
  chk (¬ (((13 : Int32)) < 0 ∨ G.2.2 b9 ≤ ((13 : Int32)).toNatClampNeg)) <|
  ltt (M8.1 b9 ((13 : Int32)).toNatClampNeg) fun x23 =>
  ltt ((x22 + x23)) fun x24 =>
  chk (¬ (((7 : Int32)) < 0 ∨ G.2.2 b3 ≤ ((7 : Int32)).toNatClampNeg)) <|
  ltt (M8.1 b3 ((7 : Int32)).toNatClampNeg) fun x25 =>
  ltt ((x24 + x25)) fun x26 =>
  bnd (if x26 ≤ x22 then (some (x26)) else
  (some (x22))) fun (y27 : Int32) =>
  some (M8, y27)))
set_option maxHeartbeats 4000000 in
set_option maxRecDepth 100000 in
theorem kX7_orderOf (l : Launch) (D : va_G) (ct : CT) (ad : Nat → Nat) (Z : Nat → Nat) (G : GG) (M : DD) (sz : Nat) (a : Nat) (p0 : Option Nat) (p1 : Option Nat) (y : DD × Int32) (hc : a < G.1) (hk : G.2.1 a = 7) (hF : FX7_orderOf G M a p0 p1 = some y) : Met l yX7_orderOf wsX7_orderOf ({ frames := 1, cells := 0, slots := 0, locals := 26 }) (va_Pc [.ref (ad a), va_re ad p0, va_re ad p1] (kB D ct ad Z G M sz)) (va_Qi (fun (q : Int32) (_ : Unit) => q = y.2) (fun _ t => kE D ct ad G (wA ad G sz) y.1 t) (wA ad G sz)) 0 0 (wA ad G sz) := by
  refine Met.ofW (cc := cX7_orderOf) (maxL := 12) (ret := (some .int)) (by decide) rfl ?_
  intro p e s m args below meth c s₁ B hml hv
  obtain ⟨rfl, hsz, hP, hK, hD0, hZ, hN⟩ := hv
  have hx := B.exec
  have hb := B.bytes
  have hr := B.returns
  have hts := atoms_spec (ws := wsX7_orderOf) B.pre
  have hown : s.vm.findClass RX7 = some m.cls := findClass_of_methodNamed B.named
  have hlocks := B.notSynchronized
  subst hsz
  have hD := wD_self (sz := s.heap.size) hD0
  have hA9 : ∀ q, s.heap.size ≤ q → wA ad G s.heap.size q := fun q h => Or.inr h
  generalize hAe : wA ad G s.heap.size = A at hD hA9 hZ ⊢
  have hS : va_S A s.heap s.heap [] := va_S.rf
  have hl := lv_entry ([.ref (ad a), va_re ad p0, va_re ad p1]) (n := 12) (by cases p0 <;> cases p1 <;> exact Nat.le_of_ble_eq_true rfl)
  rw [lg_entry_eq]
  generalize (lg_sl ([.ref (ad a), va_re ad p0, va_re ad p1]) ++ List.replicate (12 - (lg_sl ([.ref (ad a), va_re ad p0, va_re ad p1])).length) Slot.unset).toArray = ls at hl ⊢
  have hl : lv_has ls 12 [(0, .ref (ad a)), (1, va_re ad p0), (2, va_re ad p1)] := by have e9 : lv_args 0 [.ref (ad a), va_re ad p0, va_re ad p1] = [(0, .ref (ad a)), (1, va_re ad p0), (2, va_re ad p1)] := (by cases p0 <;> cases p1 <;> rfl); rw [e9] at hl; exact hl
  unfold FX7_orderOf at hF
  refine lv_aloadq_n hx hb dX7_orderOf_0 rfl (lv_at hl 1 rfl) ?_
  obtain ⟨b1, ho1, hc1, hk1, hF⟩ := dr_some hF
  refine W_st (st' := [.ref (ad b1)]) (by rw [va_some ho1]) ?_
  refine va_get (D := D) (ci := 3) (v := va_re ad (M.2 b1 0)) (C := RX3) (T := TX3) (N := 4) hx hb hts (by decide +kernel) hown hK hP b1 (wld_o ct ad G M hc1 hk1 (by decide)) rfl 0 (by decide) (hts (.fieldLink RX7 73 "VideoSuite$Header" "v" "[I") (by decide +kernel)) (fun _ h9 => h9) rfl dX7_orderOf_1 ?_
  refine lv_astoreq_n (lv' := [(3, va_re ad (M.2 b1 0)), (0, .ref (ad a)), (1, va_re ad p0), (2, va_re ad p1)]) hx hb dX7_orderOf_4 rfl hl (by decide) (by generalize p1 = o9; cases o9 <;> rfl) (fun ls hl => ?_)
  refine lv_aloadq_n hx hb dX7_orderOf_5 rfl (lv_at hl 2 rfl) ?_
  refine W_st (st' := [.ref (ad b1)]) (by rw [va_some ho1]) ?_
  obtain ⟨y2, hy2, hF⟩ := bnd_some hF
  have hf9 := wA_in hD hA9 hS
  refine va_calli (va_runV (As := []) (rest := []) ⟨hx, hb, hml, hown, hts⟩ (kX3_isOwn l D ct ad Z G M s.heap.size b1 y2 hc1 hk1 hy2) (cwV 0 hts gX7_orderOf_X3_isOwn rfl rfl rfl (by decide +kernel) ⟨Nat.le_of_ble_eq_true rfl, Nat.le_of_ble_eq_true rfl⟩) ⟨fun a U g mk q => by obtain ⟨q0, q1, qP, qK, qD, qZ, qN⟩ := q; exact ⟨q0, q1, qP, va_K.moved (u := U) (U := U.calling g mk a) (Vm.Alike.refl U.vm) qK, qD, sF.moved (u := U) (U := U.calling g mk a) (Vm.Alike.refl U.vm) qZ, nF.same rfl qN⟩, va_recv hK hP (ci := 3) (q0 := b1) rfl (wld_o ct ad G M hc1 hk1 (by decide)), fun U hU hW => ⟨rfl, by rw [hU], by rw [hU]; exact hP, va_K.moved hW.alike hK, hD.weaken (fun _ _ _ _ => trivial), by rw [hU]; exact ((hZ.kept hS.2.1).narrow hf9).moved hW.alike, hN.warm hW⟩⟩ rfl rfl hl.1 rfl (lv_room (Nat.le_of_ble_eq_true rfl)) dX7_orderOf_6 ⟨(Nat.zero_le _), (Nat.zero_le _)⟩) hS (fun q _ h => hf9 q h) hf9 (fun r u t H locs ht hvm hw hB hz1 hk1 hS => ?_)
  obtain ⟨hP, hK9, hD9⟩ := hB
  rw [ht] at hP
  try dsimp only at hw
  subst hw
  have hD := hD9.weaken (fun _ q _ h => hf9 q.1 h)
  refine lv_istore (lv' := [(4, .int y2.2), (3, va_re ad (M.2 b1 0)), (0, .ref (ad a)), (1, va_re ad p0), (2, va_re ad p1)]) hx hb dX7_orderOf_9 hl (by decide) (by generalize ((M.2 b1 0)) = o9; cases o9 <;> rfl) (fun ls hl => ?_)
  refine lv_aloadq_n hx hb dX7_orderOf_11 rfl (lv_at hl 1 rfl) ?_
  refine lv_bipush (v := (11 : Int32)) hx hb dX7_orderOf_12 (by decide) ?_
  obtain ⟨b3, ho3, hc3, hk3, hF⟩ := dr_some hF
  refine W_st (st' := [.int (11 : Int32), .ref (ad b3)]) (by rw [va_some ho3]) ?_
  obtain ⟨hvc, hF⟩ := chk_some hF
  refine va_iald hx hb hK hP b3 1 (wld_i ct ad G y2.1 hc3 hk3) rfl hvc dX7_orderOf_14 ?_
  obtain ⟨x4, ex4, hF⟩ := ltt_some hF
  refine lv_topi (fun zx4 ezx4 => ?_)
  obtain rfl : x4 = zx4 := ex4.trans ezx4.symm
  obtain ⟨y5, hy5, hF⟩ := bnd_some hF
  have J5 : ∀ (H : Heap) (locs : List Loc) (ls : Array Slot), va_P D classes (wld ct ad G y2.1) H → va_D A (wld ct ad G y2.1) → va_S A s.heap H locs → lv_has ls 12 [(4, .int y2.2), (3, va_re ad (M.2 b1 0)), (0, .ref (ad a)), (1, va_re ad p0), (2, va_re ad p1)] → W p l e (headSpec wsX7_orderOf ({ frames := 1, cells := 0, slots := 0, locals := 26 })).room s m ([.ref (ad a), va_re ad p0, va_re ad p1] : List Value).toArray below meth c H locs 0 0 (MQ below (va_Qi (fun (q : Int32) (_ : Unit) => q = y.2) (fun _ t => kE D ct ad G A y.1 t) A) ([.ref (ad a), va_re ad p0, va_re ad p1] : List Value).toArray s 0 0 A) (F0 m 23 ls [.int y5]) := by
    intro H locs ls hP hD hS hl
    refine lv_istore (lv' := [(5, .int y5), (4, .int y2.2), (3, va_re ad (M.2 b1 0)), (0, .ref (ad a)), (1, va_re ad p0), (2, va_re ad p1)]) hx hb dX7_orderOf_23 hl (by decide) rfl (fun ls hl => ?_)
    refine lv_aload_n hx hb dX7_orderOf_25 rfl (lv_at hl 3 rfl) ?_
    refine lv_iconst (v := (0 : Int32)) hx hb dX7_orderOf_26 (by decide) ?_
    refine va_put (D := D) (ci := 7) (v := .int (0 : Int32)) (ty := .int) (C := RX7) (T := TX7) (N := 17) hx hb hts (by decide +kernel) tyX7 tyX7_ok nmX7 hown hK hP hD hS a (wld_o ct ad G y2.1 hc hk (by decide)) rfl 12 (by decide) (hts (.fieldLink RX7 82 "VideoSuite$Store" "high" "I") (by decide +kernel)) (fun _ h9 => h9) rfl (by decide +kernel) rfl rfl (Nat.le_of_ble_eq_true rfl) dX7_orderOf_27 (fun H locs hP hD hS => ?_)
    obtain ⟨M6, eM6, hF⟩ := ltt_some hF
    rw [set_oI ct ad G y2.1 hc hk (by decide) (by rfl), ← eM6] at hP hD
    refine lv_aload_n hx hb dX7_orderOf_30 rfl (lv_at hl 3 rfl) ?_
    refine lv_iload hx hb dX7_orderOf_31 (lv_at hl 1 rfl) ?_
    obtain ⟨y7, hy7, hF⟩ := bnd_some hF
    have J7 : ∀ (H : Heap) (locs : List Loc) (ls : Array Slot), va_P D classes (wld ct ad G M6) H → va_D A (wld ct ad G M6) → va_S A s.heap H locs → lv_has ls 12 [(5, .int y5), (4, .int y2.2), (3, va_re ad (M.2 b1 0)), (0, .ref (ad a)), (1, va_re ad p0), (2, va_re ad p1)] → W p l e (headSpec wsX7_orderOf ({ frames := 1, cells := 0, slots := 0, locals := 26 })).room s m ([.ref (ad a), va_re ad p0, va_re ad p1] : List Value).toArray below meth c H locs 0 0 (MQ below (va_Qi (fun (q : Int32) (_ : Unit) => q = y.2) (fun _ t => kE D ct ad G A y.1 t) A) ([.ref (ad a), va_re ad p0, va_re ad p1] : List Value).toArray s 0 0 A) (F0 m 64 ls [.int y7, .ref (ad a)]) := by
      intro H locs ls hP hD hS hl
      refine va_put (D := D) (ci := 7) (v := .int y7) (ty := .int) (C := RX7) (T := TX7) (N := 17) hx hb hts (by decide +kernel) tyX7 tyX7_ok nmX7 hown hK hP hD hS a (wld_o ct ad G M6 hc hk (by decide)) rfl 13 (by decide) (hts (.fieldLink RX7 85 "VideoSuite$Store" "turn" "I") (by decide +kernel)) (fun _ h9 => h9) rfl (by decide +kernel) rfl rfl (Nat.le_of_ble_eq_true rfl) dX7_orderOf_64 (fun H locs hP hD hS => ?_)
      obtain ⟨M8, eM8, hF⟩ := ltt_some hF
      rw [set_oI ct ad G M6 hc hk (by decide) (by rfl), ← eM8] at hP hD
      refine lv_aloadq_n hx hb dX7_orderOf_67 rfl (lv_at hl 5 rfl) ?_
      refine lv_iconst (v := (3 : Int32)) hx hb dX7_orderOf_68 (by decide) ?_
      obtain ⟨b9, ho9, hc9, hk9, hF⟩ := dr_some hF
      refine W_st (st' := [.int (3 : Int32), .ref (ad b9)]) (by rw [va_some ho9]) ?_
      obtain ⟨hvc, hF⟩ := chk_some hF
      refine va_iald hx hb hK hP b9 1 (wld_i ct ad G M8 hc9 hk9) rfl hvc dX7_orderOf_69 ?_
      obtain ⟨x10, ex10, hF⟩ := ltt_some hF
      refine lv_topi (fun zx10 ezx10 => ?_)
      obtain rfl : x10 = zx10 := ex10.trans ezx10.symm
      refine lv_if_ne (tgt := 86) hx hb dX7_orderOf_70 (by decide) (fun c11 => ?_) (fun c11 => ?_)
      · rw [if_neg c11] at hF
        refine lv_aloadq_n hx hb dX7_orderOf_86 rfl (lv_at hl 5 rfl) ?_
        refine lv_iconst (v := (3 : Int32)) hx hb dX7_orderOf_87 (by decide) ?_
        refine W_st (st' := [.int (3 : Int32), .ref (ad b9)]) (by rw [va_some ho9]) ?_
        obtain ⟨hvc, hF⟩ := chk_some hF
        refine va_iald hx hb hK hP b9 1 (wld_i ct ad G M8 hc9 hk9) rfl hvc dX7_orderOf_88 ?_
        obtain ⟨x12, ex12, hF⟩ := ltt_some hF
        refine lv_topi (fun zx12 ezx12 => ?_)
        obtain rfl : x12 = zx12 := ex12.trans ezx12.symm
        refine lv_iconst (v := (2 : Int32)) hx hb dX7_orderOf_89 (by decide) ?_
        refine lv_icmp_ne (tgt := 116) hx hb dX7_orderOf_90 (by decide) (fun c13 => ?_) (fun c13 => ?_)
        · rw [if_neg c13] at hF
          refine lv_aloadq_n hx hb dX7_orderOf_116 rfl (lv_at hl 5 rfl) ?_
          refine lv_bipush (v := (14 : Int32)) hx hb dX7_orderOf_117 (by decide) ?_
          refine W_st (st' := [.int (14 : Int32), .ref (ad b9)]) (by rw [va_some ho9]) ?_
          obtain ⟨hvc, hF⟩ := chk_some hF
          refine va_iald hx hb hK hP b9 1 (wld_i ct ad G M8 hc9 hk9) rfl hvc dX7_orderOf_119 ?_
          obtain ⟨x14, ex14, hF⟩ := ltt_some hF
          refine lv_topi (fun zx14 ezx14 => ?_)
          obtain rfl : x14 = zx14 := ex14.trans ezx14.symm
          refine lv_istore (lv' := [(6, .int x14), (5, .int y5), (4, .int y2.2), (3, va_re ad (M.2 b1 0)), (0, .ref (ad a)), (1, va_re ad p0), (2, va_re ad p1)]) hx hb dX7_orderOf_120 hl (by decide) rfl (fun ls hl => ?_)
          refine lv_iload hx hb dX7_orderOf_122 (lv_at hl 0 rfl) ?_
          obtain ⟨y15, hy15, hF⟩ := bnd_some hF
          have J15 : ∀ (H : Heap) (locs : List Loc) (ls : Array Slot), va_P D classes (wld ct ad G M8) H → va_D A (wld ct ad G M8) → va_S A s.heap H locs → lv_has ls 12 [(6, .int x14), (5, .int y5), (4, .int y2.2), (3, va_re ad (M.2 b1 0)), (0, .ref (ad a)), (1, va_re ad p0), (2, va_re ad p1)] → W p l e (headSpec wsX7_orderOf ({ frames := 1, cells := 0, slots := 0, locals := 26 })).room s m ([.ref (ad a), va_re ad p0, va_re ad p1] : List Value).toArray below meth c H locs 0 0 (MQ below (va_Qi (fun (q : Int32) (_ : Unit) => q = y.2) (fun _ t => kE D ct ad G A y.1 t) A) ([.ref (ad a), va_re ad p0, va_re ad p1] : List Value).toArray s 0 0 A) (F0 m 139 ls [.int y15]) := by
            intro H locs ls hP hD hS hl
            refine lv_istore (lv' := [(7, .int y15), (6, .int x14), (5, .int y5), (4, .int y2.2), (3, va_re ad (M.2 b1 0)), (0, .ref (ad a)), (1, va_re ad p0), (2, va_re ad p1)]) hx hb dX7_orderOf_139 hl (by decide) rfl (fun ls hl => ?_)
            refine lv_iload hx hb dX7_orderOf_141 (lv_at hl 0 rfl) ?_
            refine lv_iload hx hb dX7_orderOf_143 (lv_at hl 0 rfl) ?_
            obtain ⟨y16, hy16, hF⟩ := bnd_some hF
            have J16 : ∀ (H : Heap) (locs : List Loc) (ls : Array Slot), va_P D classes (wld ct ad G M8) H → va_D A (wld ct ad G M8) → va_S A s.heap H locs → lv_has ls 12 [(7, .int y15), (6, .int x14), (5, .int y5), (4, .int y2.2), (3, va_re ad (M.2 b1 0)), (0, .ref (ad a)), (1, va_re ad p0), (2, va_re ad p1)] → W p l e (headSpec wsX7_orderOf ({ frames := 1, cells := 0, slots := 0, locals := 26 })).room s m ([.ref (ad a), va_re ad p0, va_re ad p1] : List Value).toArray below meth c H locs 0 0 (MQ below (va_Qi (fun (q : Int32) (_ : Unit) => q = y.2) (fun _ t => kE D ct ad G A y.1 t) A) ([.ref (ad a), va_re ad p0, va_re ad p1] : List Value).toArray s 0 0 A) (F0 m 154 ls [.int y16, .int y15]) := by
              intro H locs ls hP hD hS hl
              refine lv_isub hx hb dX7_orderOf_154 ?_
              obtain ⟨x17, ex17, hF⟩ := ltt_some hF
              refine lv_topi (fun zx17 ezx17 => ?_)
              obtain rfl : x17 = zx17 := ex17.trans ezx17.symm
              refine lv_istore (lv' := [(7, .int x17), (6, .int x14), (5, .int y5), (4, .int y2.2), (3, va_re ad (M.2 b1 0)), (0, .ref (ad a)), (1, va_re ad p0), (2, va_re ad p1)]) hx hb dX7_orderOf_155 hl (by decide) rfl (fun ls hl => ?_)
              refine lv_iconst (v := (0 : Int32)) hx hb dX7_orderOf_157 (by decide) ?_
              refine lv_istore (lv' := [(8, .int (0 : Int32)), (7, .int x17), (6, .int x14), (5, .int y5), (4, .int y2.2), (3, va_re ad (M.2 b1 0)), (0, .ref (ad a)), (1, va_re ad p0), (2, va_re ad p1)]) hx hb dX7_orderOf_158 hl (by decide) rfl (fun ls hl => ?_)
              refine lv_iload hx hb dX7_orderOf_160 (lv_at hl 1 rfl) ?_
              obtain ⟨y18, hy18, hF⟩ := bnd_some hF
              have J18 : ∀ (H : Heap) (locs : List Loc) (ls : Array Slot), va_P D classes (wld ct ad G M8) H → va_D A (wld ct ad G M8) → va_S A s.heap H locs → lv_has ls 12 [(8, .int y18), (7, .int x17), (6, .int x14), (5, .int y5), (4, .int y2.2), (3, va_re ad (M.2 b1 0)), (0, .ref (ad a)), (1, va_re ad p0), (2, va_re ad p1)] → W p l e (headSpec wsX7_orderOf ({ frames := 1, cells := 0, slots := 0, locals := 26 })).room s m ([.ref (ad a), va_re ad p0, va_re ad p1] : List Value).toArray below meth c H locs 0 0 (MQ below (va_Qi (fun (q : Int32) (_ : Unit) => q = y.2) (fun _ t => kE D ct ad G A y.1 t) A) ([.ref (ad a), va_re ad p0, va_re ad p1] : List Value).toArray s 0 0 A) (F0 m 257 ls []) := by
                intro H locs ls hP hD hS hl
                refine lv_iload hx hb dX7_orderOf_257 (lv_at hl 0 rfl) ?_
                refine lv_iload hx hb dX7_orderOf_259 (lv_at hl 3 rfl) ?_
                refine lv_iconst (v := (1 : Int32)) hx hb dX7_orderOf_261 (by decide) ?_
                obtain ⟨y19, hy19, hF⟩ := bnd_some hF
                have J19 : ∀ (H : Heap) (locs : List Loc) (ls : Array Slot), va_P D classes (wld ct ad G M8) H → va_D A (wld ct ad G M8) → va_S A s.heap H locs → lv_has ls 12 [(8, .int y18), (7, .int x17), (6, .int x14), (5, .int y5), (4, .int y2.2), (3, va_re ad (M.2 b1 0)), (0, .ref (ad a)), (1, va_re ad p0), (2, va_re ad p1)] → W p l e (headSpec wsX7_orderOf ({ frames := 1, cells := 0, slots := 0, locals := 26 })).room s m ([.ref (ad a), va_re ad p0, va_re ad p1] : List Value).toArray below meth c H locs 0 0 (MQ below (va_Qi (fun (q : Int32) (_ : Unit) => q = y.2) (fun _ t => kE D ct ad G A y.1 t) A) ([.ref (ad a), va_re ad p0, va_re ad p1] : List Value).toArray s 0 0 A) (F0 m 273 ls [.int y19, .int y18]) := by
                  intro H locs ls hP hD hS hl
                  refine lv_iadd hx hb dX7_orderOf_273 ?_
                  obtain ⟨x20, ex20, hF⟩ := ltt_some hF
                  refine lv_topi (fun zx20 ezx20 => ?_)
                  obtain rfl : x20 = zx20 := ex20.trans ezx20.symm
                  refine lv_istore (lv' := [(8, .int x20), (7, .int x17), (6, .int x14), (5, .int y5), (4, .int y2.2), (3, va_re ad (M.2 b1 0)), (0, .ref (ad a)), (1, va_re ad p0), (2, va_re ad p1)]) hx hb dX7_orderOf_274 hl (by decide) rfl (fun ls hl => ?_)
                  refine lv_iload hx hb dX7_orderOf_276 (lv_at hl 0 rfl) ?_
                  refine lv_aloadq_n hx hb dX7_orderOf_278 rfl (lv_at hl 5 rfl) ?_
                  refine lv_bipush (v := (6 : Int32)) hx hb dX7_orderOf_279 (by decide) ?_
                  refine W_st (st' := [.int (6 : Int32), .ref (ad b3), .int x20]) (by rw [va_some ho3]) ?_
                  obtain ⟨hvc, hF⟩ := chk_some hF
                  refine va_iald hx hb hK hP b3 1 (wld_i ct ad G M8 hc3 hk3) rfl hvc dX7_orderOf_281 ?_
                  obtain ⟨x21, ex21, hF⟩ := ltt_some hF
                  refine lv_topi (fun zx21 ezx21 => ?_)
                  obtain rfl : x21 = zx21 := ex21.trans ezx21.symm
                  refine lv_iadd hx hb dX7_orderOf_282 ?_
                  obtain ⟨x22, ex22, hF⟩ := ltt_some hF
                  refine lv_topi (fun zx22 ezx22 => ?_)
                  obtain rfl : x22 = zx22 := ex22.trans ezx22.symm
                  refine lv_istore (lv' := [(9, .int x22), (8, .int x20), (7, .int x17), (6, .int x14), (5, .int y5), (4, .int y2.2), (3, va_re ad (M.2 b1 0)), (0, .ref (ad a)), (1, va_re ad p0), (2, va_re ad p1)]) hx hb dX7_orderOf_283 hl (by decide) rfl (fun ls hl => ?_)
                  refine lv_iload hx hb dX7_orderOf_285 (lv_at hl 0 rfl) ?_
                  refine lv_aloadq_n hx hb dX7_orderOf_287 rfl (lv_at hl 9 rfl) ?_
                  refine lv_bipush (v := (13 : Int32)) hx hb dX7_orderOf_288 (by decide) ?_
                  refine W_st (st' := [.int (13 : Int32), .ref (ad b9), .int x22]) (by rw [va_some ho9]) ?_
                  obtain ⟨hvc, hF⟩ := chk_some hF
                  refine va_iald hx hb hK hP b9 1 (wld_i ct ad G M8 hc9 hk9) rfl hvc dX7_orderOf_290 ?_
                  obtain ⟨x23, ex23, hF⟩ := ltt_some hF
                  refine lv_topi (fun zx23 ezx23 => ?_)
                  obtain rfl : x23 = zx23 := ex23.trans ezx23.symm
                  refine lv_iadd hx hb dX7_orderOf_291 ?_
                  obtain ⟨x24, ex24, hF⟩ := ltt_some hF
                  refine lv_topi (fun zx24 ezx24 => ?_)
                  obtain rfl : x24 = zx24 := ex24.trans ezx24.symm
                  refine lv_aloadq_n hx hb dX7_orderOf_292 rfl (lv_at hl 6 rfl) ?_
                  refine lv_bipush (v := (7 : Int32)) hx hb dX7_orderOf_293 (by decide) ?_
                  refine W_st (st' := [.int (7 : Int32), .ref (ad b3), .int x24]) (by rw [va_some ho3]) ?_
                  obtain ⟨hvc, hF⟩ := chk_some hF
                  refine va_iald hx hb hK hP b3 1 (wld_i ct ad G M8 hc3 hk3) rfl hvc dX7_orderOf_295 ?_
                  obtain ⟨x25, ex25, hF⟩ := ltt_some hF
                  refine lv_topi (fun zx25 ezx25 => ?_)
                  obtain rfl : x25 = zx25 := ex25.trans ezx25.symm
                  refine lv_iadd hx hb dX7_orderOf_296 ?_
                  obtain ⟨x26, ex26, hF⟩ := ltt_some hF
                  refine lv_topi (fun zx26 ezx26 => ?_)
                  obtain rfl : x26 = zx26 := ex26.trans ezx26.symm
                  refine lv_istore (lv' := [(10, .int x26), (9, .int x22), (8, .int x20), (7, .int x17), (6, .int x14), (5, .int y5), (4, .int y2.2), (3, va_re ad (M.2 b1 0)), (0, .ref (ad a)), (1, va_re ad p0), (2, va_re ad p1)]) hx hb dX7_orderOf_297 hl (by decide) rfl (fun ls hl => ?_)
                  refine lv_iload hx hb dX7_orderOf_299 (lv_at hl 1 rfl) ?_
                  refine lv_iload hx hb dX7_orderOf_301 (lv_at hl 0 rfl) ?_
                  obtain ⟨y27, hy27, hF⟩ := bnd_some hF
                  have J27 : ∀ (H : Heap) (locs : List Loc) (ls : Array Slot), va_P D classes (wld ct ad G M8) H → va_D A (wld ct ad G M8) → va_S A s.heap H locs → lv_has ls 12 [(10, .int x26), (9, .int x22), (8, .int x20), (7, .int x17), (6, .int x14), (5, .int y5), (4, .int y2.2), (3, va_re ad (M.2 b1 0)), (0, .ref (ad a)), (1, va_re ad p0), (2, va_re ad p1)] → W p l e (headSpec wsX7_orderOf ({ frames := 1, cells := 0, slots := 0, locals := 26 })).room s m ([.ref (ad a), va_re ad p0, va_re ad p1] : List Value).toArray below meth c H locs 0 0 (MQ below (va_Qi (fun (q : Int32) (_ : Unit) => q = y.2) (fun _ t => kE D ct ad G A y.1 t) A) ([.ref (ad a), va_re ad p0, va_re ad p1] : List Value).toArray s 0 0 A) (F0 m 313 ls [.int y27]) := by
                    intro H locs ls hP hD hS hl
                    obtain rfl := Option.some.inj hF
                    exact W.iret (v := y27) hx hb hr (fun t ht hW => ⟨⟨_, (), rfl, rfl, ⟨by rw [ht]; exact hP, va_K.moved hW.alike hK, hD⟩⟩, hS.F ht⟩) hS.2.2 dX7_orderOf_313
                  clear hF
                  have hF := hy27
                  clear hy27
                  refine lv_icmp_ge (tgt := 311) hx hb dX7_orderOf_303 (by decide) (fun c28 => ?_) (fun c28 => ?_)
                  · rw [if_pos c28] at hF
                    refine lv_iload hx hb dX7_orderOf_311 (lv_at hl 0 rfl) ?_
                    obtain rfl := Option.some.inj hF
                    exact J27 _ _ _ hP hD hS (lv_sub hl [0, 1, 2, 3, 4, 5, 6, 7, 8, 9, 10] rfl)
                  · rw [if_neg c28] at hF
                    refine lv_iload hx hb dX7_orderOf_306 (lv_at hl 1 rfl) ?_
                    refine lv_goto (tgt := 313) hx hb dX7_orderOf_308 (by decide) ?_
                    obtain rfl := Option.some.inj hF
                    exact J27 _ _ _ hP hD hS (lv_sub hl [0, 1, 2, 3, 4, 5, 6, 7, 8, 9, 10] rfl)
                clear hF
                have hF := hy19
                clear hy19
                refine lv_icmp_ne (tgt := 272) hx hb dX7_orderOf_262 (by decide) (fun c29 => ?_) (fun c29 => ?_)
                · rw [if_neg c29] at hF
                  refine lv_iconst (v := (0 : Int32)) hx hb dX7_orderOf_272 (by decide) ?_
                  obtain rfl := Option.some.inj hF
                  exact J19 _ _ _ hP hD hS (lv_sub hl [0, 1, 2, 3, 4, 5, 6, 7, 8] rfl)
                · rw [if_pos c29] at hF
                  refine lv_aloadq_n hx hb dX7_orderOf_265 rfl (lv_at hl 8 rfl) ?_
                  refine lv_bipush (v := (12 : Int32)) hx hb dX7_orderOf_266 (by decide) ?_
                  refine W_st (st' := [.int (12 : Int32), .ref (ad b9), .int y18]) (by rw [va_some ho9]) ?_
                  obtain ⟨hvc, hF⟩ := chk_some hF
                  refine va_iald hx hb hK hP b9 1 (wld_i ct ad G M8 hc9 hk9) rfl hvc dX7_orderOf_268 ?_
                  obtain ⟨x30, ex30, hF⟩ := ltt_some hF
                  refine lv_topi (fun zx30 ezx30 => ?_)
                  obtain rfl : x30 = zx30 := ex30.trans ezx30.symm
                  refine lv_goto (tgt := 273) hx hb dX7_orderOf_269 (by decide) ?_
                  obtain rfl := Option.some.inj hF
                  exact J19 _ _ _ hP hD hS (lv_sub hl [0, 1, 2, 3, 4, 5, 6, 7, 8] rfl)
              clear hF
              have hF := hy18
              clear hy18
              refine lv_if_le (tgt := 257) hx hb dX7_orderOf_162 (by decide) (fun c31 => ?_) (fun c31 => ?_)
              · rw [if_pos c31] at hF
                obtain rfl := Option.some.inj hF
                exact J18 _ _ _ hP hD hS (lv_sub hl [0, 1, 2, 3, 4, 5, 6, 7, 8] rfl)
              · rw [if_neg c31] at hF
                refine lv_iload hx hb dX7_orderOf_165 (lv_at hl 2 rfl) ?_
                obtain ⟨y32, hy32, hF⟩ := bnd_some hF
                have J32 : ∀ (H : Heap) (locs : List Loc) (ls : Array Slot), va_P D classes (wld ct ad G M8) H → va_D A (wld ct ad G M8) → va_S A s.heap H locs → lv_has ls 12 [(8, .int y32), (7, .int x17), (6, .int x14), (5, .int y5), (4, .int y2.2), (3, va_re ad (M.2 b1 0)), (0, .ref (ad a)), (1, va_re ad p0), (2, va_re ad p1)] → W p l e (headSpec wsX7_orderOf ({ frames := 1, cells := 0, slots := 0, locals := 26 })).room s m ([.ref (ad a), va_re ad p0, va_re ad p1] : List Value).toArray below meth c H locs 0 0 (MQ below (va_Qi (fun (q : Int32) (_ : Unit) => q = y.2) (fun _ t => kE D ct ad G A y.1 t) A) ([.ref (ad a), va_re ad p0, va_re ad p1] : List Value).toArray s 0 0 A) (F0 m 257 ls []) := by
                  intro H locs ls hP hD hS hl
                  obtain rfl := Option.some.inj hF
                  exact J18 _ _ _ hP hD hS (lv_sub hl [0, 1, 2, 3, 4, 5, 6, 7, 8] rfl)
                clear hF
                have hF := hy32
                clear hy32
                refine lv_if_le (tgt := 257) hx hb dX7_orderOf_167 (by decide) (fun c33 => ?_) (fun c33 => ?_)
                · rw [if_pos c33] at hF
                  obtain rfl := Option.some.inj hF
                  exact J32 _ _ _ hP hD hS (lv_sub hl [0, 1, 2, 3, 4, 5, 6, 7, 8] rfl)
                · rw [if_neg c33] at hF
                  refine lv_iconst (v := (0 : Int32)) hx hb dX7_orderOf_170 (by decide) ?_
                  refine lv_istore (lv' := [(9, .int (0 : Int32)), (8, .int (0 : Int32)), (7, .int x17), (6, .int x14), (5, .int y5), (4, .int y2.2), (3, va_re ad (M.2 b1 0)), (0, .ref (ad a)), (1, va_re ad p0), (2, va_re ad p1)]) hx hb dX7_orderOf_171 hl (by decide) rfl (fun ls hl => ?_)
                  refine lv_iconst (v := (0 : Int32)) hx hb dX7_orderOf_173 (by decide) ?_
                  refine lv_istore (lv' := [(10, .int (0 : Int32)), (9, .int (0 : Int32)), (8, .int (0 : Int32)), (7, .int x17), (6, .int x14), (5, .int y5), (4, .int y2.2), (3, va_re ad (M.2 b1 0)), (0, .ref (ad a)), (1, va_re ad p0), (2, va_re ad p1)]) hx hb dX7_orderOf_174 hl (by decide) rfl (fun ls hl => ?_)
                  refine lv_iconst (v := (0 : Int32)) hx hb dX7_orderOf_176 (by decide) ?_
                  refine lv_istore (lv' := [(11, .int (0 : Int32)), (10, .int (0 : Int32)), (9, .int (0 : Int32)), (8, .int (0 : Int32)), (7, .int x17), (6, .int x14), (5, .int y5), (4, .int y2.2), (3, va_re ad (M.2 b1 0)), (0, .ref (ad a)), (1, va_re ad p0), (2, va_re ad p1)]) hx hb dX7_orderOf_177 hl (by decide) rfl (fun ls hl => ?_)
                  obtain ⟨y34, hy34, hF⟩ := bnd_some hF
                  have K34 : ∀ (H : Heap) (locs : List Loc) (ls : Array Slot), va_P D classes (wld ct ad G M8) H → va_D A (wld ct ad G M8) → va_S A s.heap H locs → lv_has ls 12 [(11, .int y34.2.2), (10, .int y34.2.1), (9, .int y34.1), (8, .int (0 : Int32)), (7, .int x17), (6, .int x14), (5, .int y5), (4, .int y2.2), (3, va_re ad (M.2 b1 0)), (0, .ref (ad a)), (1, va_re ad p0), (2, va_re ad p1)] → W p l e (headSpec wsX7_orderOf ({ frames := 1, cells := 0, slots := 0, locals := 26 })).room s m ([.ref (ad a), va_re ad p0, va_re ad p1] : List Value).toArray below meth c H locs 0 0 (MQ below (va_Qi (fun (q : Int32) (_ : Unit) => q = y.2) (fun _ t => kE D ct ad G A y.1 t) A) ([.ref (ad a), va_re ad p0, va_re ad p1] : List Value).toArray s 0 0 A) (F0 m 242 ls []) := by
                    intro H locs ls hP hD hS hl
                    refine lv_iload hx hb dX7_orderOf_242 (lv_at hl 4 rfl) ?_
                    refine lv_iconst (v := (1 : Int32)) hx hb dX7_orderOf_244 (by decide) ?_
                    refine lv_isub hx hb dX7_orderOf_245 ?_
                    obtain ⟨x37, ex37, hF⟩ := ltt_some hF
                    refine lv_topi (fun zx37 ezx37 => ?_)
                    obtain rfl : x37 = zx37 := ex37.trans ezx37.symm
                    refine lv_iload hx hb dX7_orderOf_246 (lv_at hl 5 rfl) ?_
                    obtain ⟨hne, hF⟩ := chk_some hF
                    refine lv_idiv hx hb dX7_orderOf_248 hne ?_
                    obtain ⟨x38, ex38, hF⟩ := ltt_some hF
                    refine lv_topi (fun zx38 ezx38 => ?_)
                    obtain rfl : x38 = zx38 := ex38.trans ezx38.symm
                    refine lv_iload hx hb dX7_orderOf_249 (lv_at hl 2 rfl) ?_
                    refine lv_imul hx hb dX7_orderOf_251 ?_
                    obtain ⟨x39, ex39, hF⟩ := ltt_some hF
                    refine lv_topi (fun zx39 ezx39 => ?_)
                    obtain rfl : x39 = zx39 := ex39.trans ezx39.symm
                    refine lv_iload hx hb dX7_orderOf_252 (lv_at hl 1 rfl) ?_
                    refine lv_iadd hx hb dX7_orderOf_254 ?_
                    obtain ⟨x40, ex40, hF⟩ := ltt_some hF
                    refine lv_topi (fun zx40 ezx40 => ?_)
                    obtain rfl : x40 = zx40 := ex40.trans ezx40.symm
                    refine lv_istore (lv' := [(8, .int x40), (11, .int y34.2.2), (10, .int y34.2.1), (9, .int y34.1), (7, .int x17), (6, .int x14), (5, .int y5), (4, .int y2.2), (3, va_re ad (M.2 b1 0)), (0, .ref (ad a)), (1, va_re ad p0), (2, va_re ad p1)]) hx hb dX7_orderOf_255 hl (by decide) rfl (fun ls hl => ?_)
                    obtain rfl := Option.some.inj hF
                    exact J32 _ _ _ hP hD hS (lv_sub hl [0, 4, 5, 6, 7, 8, 9, 10, 11] rfl)
                  clear hF
                  refine itr_rule (fun (s35 : Int32 × Int32 × Int32) => ∀ (H : Heap) (locs : List Loc) (ls : Array Slot), va_P D classes (wld ct ad G M8) H → va_D A (wld ct ad G M8) → va_S A s.heap H locs → lv_has ls 12 [(11, .int s35.2.2), (10, .int s35.2.1), (9, .int s35.1), (8, .int (0 : Int32)), (7, .int x17), (6, .int x14), (5, .int y5), (4, .int y2.2), (3, va_re ad (M.2 b1 0)), (0, .ref (ad a)), (1, va_re ad p0), (2, va_re ad p1)] → W p l e (headSpec wsX7_orderOf ({ frames := 1, cells := 0, slots := 0, locals := 26 })).room s m ([.ref (ad a), va_re ad p0, va_re ad p1] : List Value).toArray below meth c H locs 0 0 (MQ below (va_Qi (fun (q : Int32) (_ : Unit) => q = y.2) (fun _ t => kE D ct ad G A y.1 t) A) ([.ref (ad a), va_re ad p0, va_re ad p1] : List Value).toArray s 0 0 A) (F0 m 179 ls [])) ?_ _ _ hy34 _ _ _ hP hD hS (lv_sub hl [0, 1, 2, 3, 4, 5, 6, 7, 8, 9, 10, 11] rfl)
                  rintro s35 ⟨z41, hF, hwz41⟩ H locs ls hP hD hS hl
                  try dsimp only at hF
                  refine lv_iload hx hb dX7_orderOf_179 (lv_at hl 0 rfl) ?_
                  refine lv_iload hx hb dX7_orderOf_181 (lv_at hl 5 rfl) ?_
                  refine lv_icmp_ge (tgt := 242) hx hb dX7_orderOf_183 (by decide) (fun c42 => ?_) (fun c42 => ?_)
                  · rw [if_pos c42] at hF
                    obtain rfl := Option.some.inj hF
                    subst hwz41
                    exact K34 _ _ _ hP hD hS (lv_sub hl [0, 1, 2, 3, 4, 5, 6, 7, 8, 9, 10, 11] rfl)
                  · rw [if_neg c42] at hF
                    refine lv_bipush (v := (15 : Int32)) hx hb dX7_orderOf_186 (by decide) ?_
                    refine lv_iload hx hb dX7_orderOf_188 (lv_at hl 0 rfl) ?_
                    refine lv_iadd hx hb dX7_orderOf_190 ?_
                    obtain ⟨x43, ex43, hF⟩ := ltt_some hF
                    refine lv_topi (fun zx43 ezx43 => ?_)
                    obtain rfl : x43 = zx43 := ex43.trans ezx43.symm
                    refine lv_bipush (v := (23 : Int32)) hx hb dX7_orderOf_191 (by decide) ?_
                    refine lv_icmp_ge (tgt := 242) hx hb dX7_orderOf_193 (by decide) (fun c44 => ?_) (fun c44 => ?_)
                    · rw [if_pos c44] at hF
                      obtain rfl := Option.some.inj hF
                      subst hwz41
                      exact K34 _ _ _ hP hD hS (lv_sub hl [0, 1, 2, 3, 4, 5, 6, 7, 8, 9, 10, 11] rfl)
                    · rw [if_neg c44] at hF
                      refine lv_iload hx hb dX7_orderOf_196 (lv_at hl 2 rfl) ?_
                      refine lv_aloadq_n hx hb dX7_orderOf_198 rfl (lv_at hl 11 rfl) ?_
                      refine lv_bipush (v := (15 : Int32)) hx hb dX7_orderOf_199 (by decide) ?_
                      refine lv_iload hx hb dX7_orderOf_201 (lv_at hl 0 rfl) ?_
                      refine lv_iadd hx hb dX7_orderOf_203 ?_
                      obtain ⟨x45, ex45, hF⟩ := ltt_some hF
                      refine lv_topi (fun zx45 ezx45 => ?_)
                      obtain rfl : x45 = zx45 := ex45.trans ezx45.symm
                      refine W_st (st' := [.int x45, .ref (ad b9), .int s35.1]) (by rw [va_some ho9]) ?_
                      obtain ⟨hvc, hF⟩ := chk_some hF
                      refine va_iald hx hb hK hP b9 1 (wld_i ct ad G M8 hc9 hk9) rfl hvc dX7_orderOf_204 ?_
                      obtain ⟨x46, ex46, hF⟩ := ltt_some hF
                      refine lv_topi (fun zx46 ezx46 => ?_)
                      obtain rfl : x46 = zx46 := ex46.trans ezx46.symm
                      refine lv_iadd hx hb dX7_orderOf_205 ?_
                      obtain ⟨x47, ex47, hF⟩ := ltt_some hF
                      refine lv_topi (fun zx47 ezx47 => ?_)
                      obtain rfl : x47 = zx47 := ex47.trans ezx47.symm
                      refine lv_istore (lv' := [(9, .int x47), (11, .int s35.2.2), (10, .int s35.2.1), (8, .int (0 : Int32)), (7, .int x17), (6, .int x14), (5, .int y5), (4, .int y2.2), (3, va_re ad (M.2 b1 0)), (0, .ref (ad a)), (1, va_re ad p0), (2, va_re ad p1)]) hx hb dX7_orderOf_206 hl (by decide) rfl (fun ls hl => ?_)
                      refine lv_iload hx hb dX7_orderOf_208 (lv_at hl 2 rfl) ?_
                      refine lv_iload hx hb dX7_orderOf_210 (lv_at hl 1 rfl) ?_
                      refine lv_iload hx hb dX7_orderOf_212 (lv_at hl 4 rfl) ?_
                      refine lv_iconst (v := (1 : Int32)) hx hb dX7_orderOf_214 (by decide) ?_
                      refine lv_isub hx hb dX7_orderOf_215 ?_
                      obtain ⟨x48, ex48, hF⟩ := ltt_some hF
                      refine lv_topi (fun zx48 ezx48 => ?_)
                      obtain rfl : x48 = zx48 := ex48.trans ezx48.symm
                      refine lv_iload hx hb dX7_orderOf_216 (lv_at hl 5 rfl) ?_
                      obtain ⟨hne, hF⟩ := chk_some hF
                      refine lv_irem hx hb dX7_orderOf_218 hne ?_
                      obtain ⟨x49, ex49, hF⟩ := ltt_some hF
                      refine lv_topi (fun zx49 ezx49 => ?_)
                      obtain rfl : x49 = zx49 := ex49.trans ezx49.symm
                      obtain ⟨y50, hy50, hF⟩ := bnd_some hF
                      have J50 : ∀ (H : Heap) (locs : List Loc) (ls : Array Slot), va_P D classes (wld ct ad G M8) H → va_D A (wld ct ad G M8) → va_S A s.heap H locs → lv_has ls 12 [(9, .int x47), (11, .int s35.2.2), (10, .int s35.2.1), (8, .int (0 : Int32)), (7, .int x17), (6, .int x14), (5, .int y5), (4, .int y2.2), (3, va_re ad (M.2 b1 0)), (0, .ref (ad a)), (1, va_re ad p0), (2, va_re ad p1)] → W p l e (headSpec wsX7_orderOf ({ frames := 1, cells := 0, slots := 0, locals := 26 })).room s m ([.ref (ad a), va_re ad p0, va_re ad p1] : List Value).toArray below meth c H locs 0 0 (MQ below (va_Qi (fun (q : Int32) (_ : Unit) => q = y.2) (fun _ t => kE D ct ad G A y.1 t) A) ([.ref (ad a), va_re ad p0, va_re ad p1] : List Value).toArray s 0 0 A) (F0 m 233 ls [.int y50, .int s35.2.1]) := by
                        intro H locs ls hP hD hS hl
                        refine lv_iadd hx hb dX7_orderOf_233 ?_
                        obtain ⟨x51, ex51, hF⟩ := ltt_some hF
                        refine lv_topi (fun zx51 ezx51 => ?_)
                        obtain rfl : x51 = zx51 := ex51.trans ezx51.symm
                        refine lv_istore (lv' := [(10, .int x51), (9, .int x47), (11, .int s35.2.2), (8, .int (0 : Int32)), (7, .int x17), (6, .int x14), (5, .int y5), (4, .int y2.2), (3, va_re ad (M.2 b1 0)), (0, .ref (ad a)), (1, va_re ad p0), (2, va_re ad p1)]) hx hb dX7_orderOf_234 hl (by decide) rfl (fun ls hl => ?_)
                        obtain ⟨x52, ex52, hF⟩ := ltt_some hF
                        refine lv_iinc (v := x52) (lv' := [(11, .int x52), (10, .int x51), (9, .int x47), (8, .int (0 : Int32)), (7, .int x17), (6, .int x14), (5, .int y5), (4, .int y2.2), (3, va_re ad (M.2 b1 0)), (0, .ref (ad a)), (1, va_re ad p0), (2, va_re ad p1)]) hx hb dX7_orderOf_236 hl (k := 2) rfl (by rw [ex52]; rfl) (by decide) rfl (fun ls hl => ?_)
                        refine lv_goto (tgt := 179) hx hb dX7_orderOf_239 (by decide) ?_
                        obtain rfl := Option.some.inj hF
                        exact hwz41 _ _ _ hP hD hS (lv_sub hl [0, 1, 2, 3, 4, 5, 6, 7, 8, 9, 10, 11] rfl)
                      clear hF
                      have hF := hy50
                      clear hy50
                      refine lv_icmp_gt (tgt := 232) hx hb dX7_orderOf_219 (by decide) (fun c53 => ?_) (fun c53 => ?_)
                      · rw [if_pos c53] at hF
                        refine lv_iconst (v := (0 : Int32)) hx hb dX7_orderOf_232 (by decide) ?_
                        obtain rfl := Option.some.inj hF
                        exact J50 _ _ _ hP hD hS (lv_sub hl [0, 1, 2, 3, 4, 5, 6, 7, 8, 9, 10, 11] rfl)
                      · rw [if_neg c53] at hF
                        refine lv_aloadq_n hx hb dX7_orderOf_222 rfl (lv_at hl 11 rfl) ?_
                        refine lv_bipush (v := (15 : Int32)) hx hb dX7_orderOf_223 (by decide) ?_
                        refine lv_iload hx hb dX7_orderOf_225 (lv_at hl 1 rfl) ?_
                        refine lv_iadd hx hb dX7_orderOf_227 ?_
                        obtain ⟨x54, ex54, hF⟩ := ltt_some hF
                        refine lv_topi (fun zx54 ezx54 => ?_)
                        obtain rfl : x54 = zx54 := ex54.trans ezx54.symm
                        refine W_st (st' := [.int x54, .ref (ad b9), .int s35.2.1]) (by rw [va_some ho9]) ?_
                        obtain ⟨hvc, hF⟩ := chk_some hF
                        refine va_iald hx hb hK hP b9 1 (wld_i ct ad G M8 hc9 hk9) rfl hvc dX7_orderOf_228 ?_
                        obtain ⟨x55, ex55, hF⟩ := ltt_some hF
                        refine lv_topi (fun zx55 ezx55 => ?_)
                        obtain rfl : x55 = zx55 := ex55.trans ezx55.symm
                        refine lv_goto (tgt := 233) hx hb dX7_orderOf_229 (by decide) ?_
                        obtain rfl := Option.some.inj hF
                        exact J50 _ _ _ hP hD hS (lv_sub hl [0, 1, 2, 3, 4, 5, 6, 7, 8, 9, 10, 11] rfl)
            clear hF
            have hF := hy16
            clear hy16
            refine lv_if_le (tgt := 153) hx hb dX7_orderOf_145 (by decide) (fun c56 => ?_) (fun c56 => ?_)
            · rw [if_pos c56] at hF
              refine lv_iconst (v := (0 : Int32)) hx hb dX7_orderOf_153 (by decide) ?_
              obtain rfl := Option.some.inj hF
              exact J16 _ _ _ hP hD hS (lv_sub hl [0, 1, 2, 3, 4, 5, 6, 7] rfl)
            · rw [if_neg c56] at hF
              refine lv_iload hx hb dX7_orderOf_148 (lv_at hl 2 rfl) ?_
              refine lv_goto (tgt := 154) hx hb dX7_orderOf_150 (by decide) ?_
              obtain rfl := Option.some.inj hF
              exact J16 _ _ _ hP hD hS (lv_sub hl [0, 1, 2, 3, 4, 5, 6, 7] rfl)
          clear hF
          have hF := hy15
          clear hy15
          refine lv_if_ne (tgt := 131) hx hb dX7_orderOf_124 (by decide) (fun c57 => ?_) (fun c57 => ?_)
          · rw [if_neg c57] at hF
            refine lv_aload_n hx hb dX7_orderOf_131 rfl (lv_at hl 4 rfl) ?_
            refine va_get (D := D) (ci := 7) (v := .int (M8.1 a 13)) (C := RX7) (T := TX7) (N := 17) hx hb hts (by decide +kernel) hown hK hP a (wld_o ct ad G M8 hc hk (by decide)) rfl 13 (by decide) (hts (.fieldLink RX7 85 "VideoSuite$Store" "turn" "I") (by decide +kernel)) (fun _ h9 => h9) rfl dX7_orderOf_132 ?_
            obtain ⟨x58, ex58, hF⟩ := ltt_some hF
            refine lv_topi (fun zx58 ezx58 => ?_)
            obtain rfl : x58 = zx58 := ex58.trans ezx58.symm
            refine lv_aloadq_n hx hb dX7_orderOf_135 rfl (lv_at hl 3 rfl) ?_
            refine lv_iconst (v := (3 : Int32)) hx hb dX7_orderOf_136 (by decide) ?_
            refine W_st (st' := [.int (3 : Int32), .ref (ad b3), .int x58]) (by rw [va_some ho3]) ?_
            obtain ⟨hvc, hF⟩ := chk_some hF
            refine va_iald hx hb hK hP b3 1 (wld_i ct ad G M8 hc3 hk3) rfl hvc dX7_orderOf_137 ?_
            obtain ⟨x59, ex59, hF⟩ := ltt_some hF
            refine lv_topi (fun zx59 ezx59 => ?_)
            obtain rfl : x59 = zx59 := ex59.trans ezx59.symm
            refine lv_iadd hx hb dX7_orderOf_138 ?_
            obtain ⟨x60, ex60, hF⟩ := ltt_some hF
            refine lv_topi (fun zx60 ezx60 => ?_)
            obtain rfl : x60 = zx60 := ex60.trans ezx60.symm
            obtain rfl := Option.some.inj hF
            exact J15 _ _ _ hP hD hS (lv_sub hl [0, 1, 2, 3, 4, 5, 6] rfl)
          · rw [if_pos c57] at hF
            refine lv_iconst (v := (0 : Int32)) hx hb dX7_orderOf_127 (by decide) ?_
            refine lv_goto (tgt := 139) hx hb dX7_orderOf_128 (by decide) ?_
            obtain rfl := Option.some.inj hF
            exact J15 _ _ _ hP hD hS (lv_sub hl [0, 1, 2, 3, 4, 5, 6] rfl)
        · rw [if_pos c13] at hF
          refine lv_iload hx hb dX7_orderOf_93 (lv_at hl 1 rfl) ?_
          obtain ⟨y61, hy61, hF⟩ := bnd_some hF
          have J61 : ∀ (H : Heap) (locs : List Loc) (ls : Array Slot), va_P D classes (wld ct ad G M8) H → va_D A (wld ct ad G M8) → va_S A s.heap H locs → lv_has ls 12 [(5, .int y5), (4, .int y2.2), (3, va_re ad (M.2 b1 0)), (0, .ref (ad a)), (1, va_re ad p0), (2, va_re ad p1)] → W p l e (headSpec wsX7_orderOf ({ frames := 1, cells := 0, slots := 0, locals := 26 })).room s m ([.ref (ad a), va_re ad p0, va_re ad p1] : List Value).toArray below meth c H locs 0 0 (MQ below (va_Qi (fun (q : Int32) (_ : Unit) => q = y.2) (fun _ t => kE D ct ad G A y.1 t) A) ([.ref (ad a), va_re ad p0, va_re ad p1] : List Value).toArray s 0 0 A) (F0 m 115 ls [.int y61]) := by
            intro H locs ls hP hD hS hl
            obtain rfl := Option.some.inj hF
            exact W.iret (v := y61) hx hb hr (fun t ht hW => ⟨⟨_, (), rfl, rfl, ⟨by rw [ht]; exact hP, va_K.moved hW.alike hK, hD⟩⟩, hS.F ht⟩) hS.2.2 dX7_orderOf_115
          clear hF
          have hF := hy61
          clear hy61
          refine lv_if_eq (tgt := 102) hx hb dX7_orderOf_95 (by decide) (fun c62 => ?_) (fun c62 => ?_)
          · rw [if_pos c62] at hF
            refine lv_iconst (v := (2 : Int32)) hx hb dX7_orderOf_102 (by decide) ?_
            refine lv_aload_n hx hb dX7_orderOf_103 rfl (lv_at hl 3 rfl) ?_
            refine va_get (D := D) (ci := 7) (v := .int (M8.1 a 13)) (C := RX7) (T := TX7) (N := 17) hx hb hts (by decide +kernel) hown hK hP a (wld_o ct ad G M8 hc hk (by decide)) rfl 13 (by decide) (hts (.fieldLink RX7 85 "VideoSuite$Store" "turn" "I") (by decide +kernel)) (fun _ h9 => h9) rfl dX7_orderOf_104 ?_
            obtain ⟨x63, ex63, hF⟩ := ltt_some hF
            refine lv_topi (fun zx63 ezx63 => ?_)
            obtain rfl : x63 = zx63 := ex63.trans ezx63.symm
            refine lv_aloadq_n hx hb dX7_orderOf_107 rfl (lv_at hl 2 rfl) ?_
            refine lv_iconst (v := (3 : Int32)) hx hb dX7_orderOf_108 (by decide) ?_
            refine W_st (st' := [.int (3 : Int32), .ref (ad b3), .int x63, .int (2 : Int32)]) (by rw [va_some ho3]) ?_
            obtain ⟨hvc, hF⟩ := chk_some hF
            refine va_iald hx hb hK hP b3 1 (wld_i ct ad G M8 hc3 hk3) rfl hvc dX7_orderOf_109 ?_
            obtain ⟨x64, ex64, hF⟩ := ltt_some hF
            refine lv_topi (fun zx64 ezx64 => ?_)
            obtain rfl : x64 = zx64 := ex64.trans ezx64.symm
            refine lv_iadd hx hb dX7_orderOf_110 ?_
            obtain ⟨x65, ex65, hF⟩ := ltt_some hF
            refine lv_topi (fun zx65 ezx65 => ?_)
            obtain rfl : x65 = zx65 := ex65.trans ezx65.symm
            refine lv_imul hx hb dX7_orderOf_111 ?_
            obtain ⟨x66, ex66, hF⟩ := ltt_some hF
            refine lv_topi (fun zx66 ezx66 => ?_)
            obtain rfl : x66 = zx66 := ex66.trans ezx66.symm
            refine lv_iload hx hb dX7_orderOf_112 (lv_at hl 0 rfl) ?_
            refine lv_isub hx hb dX7_orderOf_114 ?_
            obtain ⟨x67, ex67, hF⟩ := ltt_some hF
            refine lv_topi (fun zx67 ezx67 => ?_)
            obtain rfl : x67 = zx67 := ex67.trans ezx67.symm
            obtain rfl := Option.some.inj hF
            exact J61 _ _ _ hP hD hS (lv_sub hl [0, 1, 2, 3, 4, 5] rfl)
          · rw [if_neg c62] at hF
            refine lv_iconst (v := (0 : Int32)) hx hb dX7_orderOf_98 (by decide) ?_
            refine lv_goto (tgt := 115) hx hb dX7_orderOf_99 (by decide) ?_
            obtain rfl := Option.some.inj hF
            exact J61 _ _ _ hP hD hS (lv_sub hl [0, 1, 2, 3, 4, 5] rfl)
      · rw [if_pos c11] at hF
        refine lv_aload_n hx hb dX7_orderOf_73 rfl (lv_at hl 3 rfl) ?_
        refine lv_aloadq_n hx hb dX7_orderOf_74 rfl (lv_at hl 2 rfl) ?_
        refine lv_iconst (v := (1 : Int32)) hx hb dX7_orderOf_75 (by decide) ?_
        refine lv_aloadq_n hx hb dX7_orderOf_76 rfl (lv_at hl 5 rfl) ?_
        refine lv_iconst (v := (4 : Int32)) hx hb dX7_orderOf_77 (by decide) ?_
        refine W_st (st' := [.int (4 : Int32), .ref (ad b9), .int (1 : Int32), va_re ad (M.2 b1 0), .ref (ad a)]) (by rw [va_some ho9]) ?_
        obtain ⟨hvc, hF⟩ := chk_some hF
        refine va_iald hx hb hK hP b9 1 (wld_i ct ad G M8 hc9 hk9) rfl hvc dX7_orderOf_78 ?_
        obtain ⟨x68, ex68, hF⟩ := ltt_some hF
        refine lv_topi (fun zx68 ezx68 => ?_)
        obtain rfl : x68 = zx68 := ex68.trans ezx68.symm
        refine lv_ishl hx hb dX7_orderOf_79 ?_
        obtain ⟨x69, ex69, hF⟩ := ltt_some hF
        refine lv_topi (fun zx69 ezx69 => ?_)
        obtain rfl : x69 = zx69 := ex69.trans ezx69.symm
        refine lv_iload hx hb dX7_orderOf_80 (lv_at hl 1 rfl) ?_
        obtain ⟨y70, hy70, hF⟩ := bnd_some hF
        have hf9 := wA_in hD hA9 hS
        refine va_calli (va_runV (As := [va_re ad (M.2 b1 0), .int x69, .int y2.2]) (rest := []) ⟨hx, hb, hml, hown, hts⟩ (kX7_orderByLow l D ct ad Z G M8 H.size a ((M.2 b1 0)) x69 y2.2 y70 hc hk hy70) (cwV 3 hts gX7_orderOf_X7_orderByLow rfl rfl rfl (by decide +kernel) ⟨Nat.le_of_ble_eq_true rfl, Nat.le_of_ble_eq_true rfl⟩) ⟨fun a U g mk q => by obtain ⟨q0, q1, qP, qK, qD, qZ, qN⟩ := q; exact ⟨q0, q1, qP, va_K.moved (u := U) (U := U.calling g mk a) (Vm.Alike.refl U.vm) qK, qD, sF.moved (u := U) (U := U.calling g mk a) (Vm.Alike.refl U.vm) qZ, nF.same rfl qN⟩, va_recv hK hP (ci := 7) (q0 := a) rfl (wld_o ct ad G M8 hc hk (by decide)), fun U hU hW => ⟨rfl, by rw [hU], by rw [hU]; exact hP, va_K.moved hW.alike hK, hD.weaken (fun _ _ _ _ => trivial), by rw [hU]; exact ((hZ.kept hS.2.1).narrow hf9).moved hW.alike, hN.warm hW⟩⟩ rfl rfl hl.1 rfl (lv_room (Nat.le_of_ble_eq_true rfl)) dX7_orderOf_82 ⟨(Nat.zero_le _), (Nat.zero_le _)⟩) hS (fun q _ h => hf9 q h) hf9 (fun r u t H locs ht hvm hw hB hz1 hk1 hS => ?_)
        obtain ⟨hP, hK9, hD9⟩ := hB
        rw [ht] at hP
        try dsimp only at hw
        subst hw
        have hD := hD9.weaken (fun _ q _ h => hf9 q.1 h)
        obtain rfl := Option.some.inj hF
        exact W.iret (v := y70.2) hx hb hr (fun t ht hW => ⟨⟨_, (), rfl, rfl, ⟨by rw [ht]; exact hP, va_K.moved hW.alike hK, hD⟩⟩, hS.F ht⟩) hS.2.2 dX7_orderOf_85
    clear hF
    have hF := hy7
    clear hy7
    refine lv_if_eq (tgt := 40) hx hb dX7_orderOf_33 (by decide) (fun c71 => ?_) (fun c71 => ?_)
    · rw [if_pos c71] at hF
      refine lv_aload_n hx hb dX7_orderOf_40 rfl (lv_at hl 3 rfl) ?_
      refine va_get (D := D) (ci := 7) (v := .int (M6.1 a 10)) (C := RX7) (T := TX7) (N := 17) hx hb hts (by decide +kernel) hown hK hP a (wld_o ct ad G M6 hc hk (by decide)) rfl 10 (by decide) (hts (.fieldLink RX7 52 "VideoSuite$Store" "turnBefore" "I") (by decide +kernel)) (fun _ h9 => h9) rfl dX7_orderOf_41 ?_
      obtain ⟨x72, ex72, hF⟩ := ltt_some hF
      refine lv_topi (fun zx72 ezx72 => ?_)
      obtain rfl : x72 = zx72 := ex72.trans ezx72.symm
      refine lv_aload_n hx hb dX7_orderOf_44 rfl (lv_at hl 3 rfl) ?_
      refine va_get (D := D) (ci := 7) (v := .int (M6.1 a 11)) (C := RX7) (T := TX7) (N := 17) hx hb hts (by decide +kernel) hown hK hP a (wld_o ct ad G M6 hc hk (by decide)) rfl 11 (by decide) (hts (.fieldLink RX7 55 "VideoSuite$Store" "frameBefore" "I") (by decide +kernel)) (fun _ h9 => h9) rfl dX7_orderOf_45 ?_
      obtain ⟨x73, ex73, hF⟩ := ltt_some hF
      refine lv_topi (fun zx73 ezx73 => ?_)
      obtain rfl : x73 = zx73 := ex73.trans ezx73.symm
      refine lv_aloadq_n hx hb dX7_orderOf_48 rfl (lv_at hl 2 rfl) ?_
      refine lv_iconst (v := (3 : Int32)) hx hb dX7_orderOf_49 (by decide) ?_
      refine W_st (st' := [.int (3 : Int32), .ref (ad b3), .int x73, .int x72, .ref (ad a)]) (by rw [va_some ho3]) ?_
      obtain ⟨hvc, hF⟩ := chk_some hF
      refine va_iald hx hb hK hP b3 1 (wld_i ct ad G M6 hc3 hk3) rfl hvc dX7_orderOf_50 ?_
      obtain ⟨x74, ex74, hF⟩ := ltt_some hF
      refine lv_topi (fun zx74 ezx74 => ?_)
      obtain rfl : x74 = zx74 := ex74.trans ezx74.symm
      obtain ⟨y75, hy75, hF⟩ := bnd_some hF
      have J75 : ∀ (H : Heap) (locs : List Loc) (ls : Array Slot), va_P D classes (wld ct ad G M6) H → va_D A (wld ct ad G M6) → va_S A s.heap H locs → lv_has ls 12 [(5, .int y5), (4, .int y2.2), (3, va_re ad (M.2 b1 0)), (0, .ref (ad a)), (1, va_re ad p0), (2, va_re ad p1)] → W p l e (headSpec wsX7_orderOf ({ frames := 1, cells := 0, slots := 0, locals := 26 })).room s m ([.ref (ad a), va_re ad p0, va_re ad p1] : List Value).toArray below meth c H locs 0 0 (MQ below (va_Qi (fun (q : Int32) (_ : Unit) => q = y.2) (fun _ t => kE D ct ad G A y.1 t) A) ([.ref (ad a), va_re ad p0, va_re ad p1] : List Value).toArray s 0 0 A) (F0 m 63 ls [.int y75, .int x72, .ref (ad a)]) := by
        intro H locs ls hP hD hS hl
        refine lv_iadd hx hb dX7_orderOf_63 ?_
        obtain ⟨x76, ex76, hF⟩ := ltt_some hF
        refine lv_topi (fun zx76 ezx76 => ?_)
        obtain rfl : x76 = zx76 := ex76.trans ezx76.symm
        obtain rfl := Option.some.inj hF
        exact J7 _ _ _ hP hD hS (lv_sub hl [0, 1, 2, 3, 4, 5] rfl)
      clear hF
      have hF := hy75
      clear hy75
      refine lv_icmp_le (tgt := 62) hx hb dX7_orderOf_51 (by decide) (fun c77 => ?_) (fun c77 => ?_)
      · rw [if_pos c77] at hF
        refine lv_iconst (v := (0 : Int32)) hx hb dX7_orderOf_62 (by decide) ?_
        obtain rfl := Option.some.inj hF
        exact J75 _ _ _ hP hD hS (lv_sub hl [0, 1, 2, 3, 4, 5] rfl)
      · rw [if_neg c77] at hF
        refine lv_iconst (v := (1 : Int32)) hx hb dX7_orderOf_54 (by decide) ?_
        refine lv_aloadq_n hx hb dX7_orderOf_55 rfl (lv_at hl 5 rfl) ?_
        refine lv_iconst (v := (2 : Int32)) hx hb dX7_orderOf_56 (by decide) ?_
        obtain ⟨b78, ho78, hc78, hk78, hF⟩ := dr_some hF
        refine W_st (st' := [.int (2 : Int32), .ref (ad b78), .int (1 : Int32), .int x72, .ref (ad a)]) (by rw [va_some ho78]) ?_
        obtain ⟨hvc, hF⟩ := chk_some hF
        refine va_iald hx hb hK hP b78 1 (wld_i ct ad G M6 hc78 hk78) rfl hvc dX7_orderOf_57 ?_
        obtain ⟨x79, ex79, hF⟩ := ltt_some hF
        refine lv_topi (fun zx79 ezx79 => ?_)
        obtain rfl : x79 = zx79 := ex79.trans ezx79.symm
        refine lv_ishl hx hb dX7_orderOf_58 ?_
        obtain ⟨x80, ex80, hF⟩ := ltt_some hF
        refine lv_topi (fun zx80 ezx80 => ?_)
        obtain rfl : x80 = zx80 := ex80.trans ezx80.symm
        refine lv_goto (tgt := 63) hx hb dX7_orderOf_59 (by decide) ?_
        obtain rfl := Option.some.inj hF
        exact J75 _ _ _ hP hD hS (lv_sub hl [0, 1, 2, 3, 4, 5] rfl)
    · rw [if_neg c71] at hF
      refine lv_iconst (v := (0 : Int32)) hx hb dX7_orderOf_36 (by decide) ?_
      refine lv_goto (tgt := 64) hx hb dX7_orderOf_37 (by decide) ?_
      obtain rfl := Option.some.inj hF
      exact J7 _ _ _ hP hD hS (lv_sub hl [0, 1, 2, 3, 4, 5] rfl)
  clear hF
  have hF := hy5
  clear hy5
  refine lv_if_ne (tgt := 22) hx hb dX7_orderOf_15 (by decide) (fun c81 => ?_) (fun c81 => ?_)
  · rw [if_neg c81] at hF
    refine lv_iconst (v := (0 : Int32)) hx hb dX7_orderOf_22 (by decide) ?_
    obtain rfl := Option.some.inj hF
    exact J5 _ _ _ hP hD hS (lv_sub hl [0, 1, 2, 3, 4] rfl)
  · rw [if_pos c81] at hF
    refine lv_iconst (v := (1 : Int32)) hx hb dX7_orderOf_18 (by decide) ?_
    refine lv_goto (tgt := 23) hx hb dX7_orderOf_19 (by decide) ?_
    obtain rfl := Option.some.inj hF
    exact J5 _ _ _ hP hD hS (lv_sub hl [0, 1, 2, 3, 4] rfl)
theorem dX7_references_0 : decode cX7_references 0 = .ok (.iconst 0, 1) := by decide +kernel
theorem dX7_references_1 : decode cX7_references 1 = .ok (.istore_n 1, 1) := by decide +kernel
theorem dX7_references_2 : decode cX7_references 2 = .ok (.iconst 0, 1) := by decide +kernel
theorem dX7_references_3 : decode cX7_references 3 = .ok (.istore_n 2, 1) := by decide +kernel
theorem dX7_references_4 : decode cX7_references 4 = .ok (.iload_n 2, 1) := by decide +kernel
theorem dX7_references_5 : decode cX7_references 5 = .ok (.aload_n 0, 1) := by decide +kernel
theorem dX7_references_6 : decode cX7_references 6 = .ok (.getfield 29, 3) := by decide +kernel
theorem dX7_references_9 : decode cX7_references 9 = .ok (.if_icmp .ge 29, 3) := by decide +kernel
theorem dX7_references_12 : decode cX7_references 12 = .ok (.iload_n 1, 1) := by decide +kernel
theorem dX7_references_13 : decode cX7_references 13 = .ok (.aload_n 0, 1) := by decide +kernel
theorem dX7_references_14 : decode cX7_references 14 = .ok (.getfield 17, 3) := by decide +kernel
theorem dX7_references_17 : decode cX7_references 17 = .ok (.iload_n 2, 1) := by decide +kernel
theorem dX7_references_18 : decode cX7_references 18 = .ok (.aaload, 1) := by decide +kernel
theorem dX7_references_19 : decode cX7_references 19 = .ok (.getfield 123, 3) := by decide +kernel
theorem dX7_references_22 : decode cX7_references 22 = .ok (.ifCond .eq 7, 3) := by decide +kernel
theorem dX7_references_25 : decode cX7_references 25 = .ok (.iconst 1, 1) := by decide +kernel
theorem dX7_references_26 : decode cX7_references 26 = .ok (.goto 4, 3) := by decide +kernel
theorem dX7_references_29 : decode cX7_references 29 = .ok (.iconst 0, 1) := by decide +kernel
theorem dX7_references_30 : decode cX7_references 30 = .ok (.iadd, 1) := by decide +kernel
theorem dX7_references_31 : decode cX7_references 31 = .ok (.istore_n 1, 1) := by decide +kernel
theorem dX7_references_32 : decode cX7_references 32 = .ok (.iinc 2 1, 3) := by decide +kernel
theorem dX7_references_35 : decode cX7_references 35 = .ok (.goto (-31), 3) := by decide +kernel
theorem dX7_references_38 : decode cX7_references 38 = .ok (.iload_n 1, 1) := by decide +kernel
theorem dX7_references_39 : decode cX7_references 39 = .ok (.ireturn, 1) := by decide +kernel
def FX7_references (G : GG) (M : DD) (a : Nat)  : Option (DD × Int32) :=
  bnd (itr (fun (s2 : Int32 × Int32) => ((ltt (M.1 a 3) fun x5 =>
  if x5 ≤ s2.2 then (some (.inr (s2.1, s2.2))) else
  (dr G 14 ((M.2 a 2)) fun b7 =>
  chk (¬ (s2.2 < 0 ∨ G.2.2 b7 ≤ s2.2.toNatClampNeg)) <|
  dr G 4 ((M.2 b7 s2.2.toNatClampNeg)) fun b8 =>
  ltt (M.1 b8 10) fun x9 =>
  bnd (if x9 = ((0 : Int32)) then (some ((0 : Int32))) else
  (some ((1 : Int32)))) fun (y10 : Int32) =>
  ltt ((s2.1 + y10)) fun x11 =>
  ltt (s2.2 + (1 : Int32)) fun x12 =>
  some (.inl (x11, x12)))) : Option ((Int32 × Int32) ⊕ (Int32 × Int32)))) 1000000 ((0 : Int32), (0 : Int32))) fun (y1 : Int32 × Int32) =>
  some (M, y1.1)
set_option maxHeartbeats 4000000 in
set_option maxRecDepth 100000 in
theorem kX7_references (l : Launch) (D : va_G) (ct : CT) (ad : Nat → Nat) (Z : Nat → Nat) (G : GG) (M : DD) (sz : Nat) (a : Nat)  (y : DD × Int32) (hc : a < G.1) (hk : G.2.1 a = 7) (hF : FX7_references G M a  = some y) : Met l yX7_references wsX7_references ({ frames := 0, cells := 0, slots := 0, locals := 0 }) (va_Pc [.ref (ad a)] (kB D ct ad Z G M sz)) (va_Qi (fun (q : Int32) (_ : Unit) => q = y.2) (fun _ t => kE D ct ad G (wA ad G sz) y.1 t) (wA ad G sz)) 0 0 (wA ad G sz) := by
  refine Met.ofW (cc := cX7_references) (maxL := 3) (ret := (some .int)) (by decide) rfl ?_
  intro p e s m args below meth c s₁ B hml hv
  obtain ⟨rfl, hsz, hP, hK, hD0, hZ, hN⟩ := hv
  have hx := B.exec
  have hb := B.bytes
  have hr := B.returns
  have hts := atoms_spec (ws := wsX7_references) B.pre
  have hown : s.vm.findClass RX7 = some m.cls := findClass_of_methodNamed B.named
  have hlocks := B.notSynchronized
  subst hsz
  have hD := wD_self (sz := s.heap.size) hD0
  have hA9 : ∀ q, s.heap.size ≤ q → wA ad G s.heap.size q := fun q h => Or.inr h
  generalize hAe : wA ad G s.heap.size = A at hD hA9 hZ ⊢
  have hS : va_S A s.heap s.heap [] := va_S.rf
  have hl := lv_entry ([.ref (ad a)]) (n := 3) (Nat.le_of_ble_eq_true rfl)
  rw [lg_entry_eq]
  generalize (lg_sl ([.ref (ad a)]) ++ List.replicate (3 - (lg_sl ([.ref (ad a)])).length) Slot.unset).toArray = ls at hl ⊢
  have hl : lv_has ls 3 [(0, .ref (ad a))] := hl
  unfold FX7_references at hF
  refine lv_iconst (v := (0 : Int32)) hx hb dX7_references_0 (by decide) ?_
  refine lv_istore_n (lv' := [(1, .int (0 : Int32)), (0, .ref (ad a))]) hx hb dX7_references_1 rfl hl (by decide) rfl (fun ls hl => ?_)
  refine lv_iconst (v := (0 : Int32)) hx hb dX7_references_2 (by decide) ?_
  refine lv_istore_n (lv' := [(2, .int (0 : Int32)), (1, .int (0 : Int32)), (0, .ref (ad a))]) hx hb dX7_references_3 rfl hl (by decide) rfl (fun ls hl => ?_)
  obtain ⟨y1, hy1, hF⟩ := bnd_some hF
  have K1 : ∀ (H : Heap) (locs : List Loc) (ls : Array Slot), va_P D classes (wld ct ad G M) H → va_D A (wld ct ad G M) → va_S A s.heap H locs → lv_has ls 3 [(2, .int y1.2), (1, .int y1.1), (0, .ref (ad a))] → W p l e (headSpec wsX7_references ({ frames := 0, cells := 0, slots := 0, locals := 0 })).room s m ([.ref (ad a)] : List Value).toArray below meth c H locs 0 0 (MQ below (va_Qi (fun (q : Int32) (_ : Unit) => q = y.2) (fun _ t => kE D ct ad G A y.1 t) A) ([.ref (ad a)] : List Value).toArray s 0 0 A) (F0 m 38 ls []) := by
    intro H locs ls hP hD hS hl
    refine lv_iload_n hx hb dX7_references_38 rfl (lv_at hl 1 rfl) ?_
    obtain rfl := Option.some.inj hF
    exact W.iret (v := y1.1) hx hb hr (fun t ht hW => ⟨⟨_, (), rfl, rfl, ⟨by rw [ht]; exact hP, va_K.moved hW.alike hK, hD⟩⟩, hS.F ht⟩) hS.2.2 dX7_references_39
  clear hF
  refine itr_rule (fun (s2 : Int32 × Int32) => ∀ (H : Heap) (locs : List Loc) (ls : Array Slot), va_P D classes (wld ct ad G M) H → va_D A (wld ct ad G M) → va_S A s.heap H locs → lv_has ls 3 [(2, .int s2.2), (1, .int s2.1), (0, .ref (ad a))] → W p l e (headSpec wsX7_references ({ frames := 0, cells := 0, slots := 0, locals := 0 })).room s m ([.ref (ad a)] : List Value).toArray below meth c H locs 0 0 (MQ below (va_Qi (fun (q : Int32) (_ : Unit) => q = y.2) (fun _ t => kE D ct ad G A y.1 t) A) ([.ref (ad a)] : List Value).toArray s 0 0 A) (F0 m 4 ls [])) ?_ _ _ hy1 _ _ _ hP hD hS (lv_sub hl [0, 1, 2] rfl)
  rintro s2 ⟨z4, hF, hwz4⟩ H locs ls hP hD hS hl
  try dsimp only at hF
  refine lv_iload_n hx hb dX7_references_4 rfl (lv_at hl 0 rfl) ?_
  refine lv_aload_n hx hb dX7_references_5 rfl (lv_at hl 2 rfl) ?_
  refine va_get (D := D) (ci := 7) (v := .int (M.1 a 3)) (C := RX7) (T := TX7) (N := 17) hx hb hts (by decide +kernel) hown hK hP a (wld_o ct ad G M hc hk (by decide)) rfl 3 (by decide) (hts (.fieldLink RX7 29 "VideoSuite$Store" "count" "I") (by decide +kernel)) (fun _ h9 => h9) rfl dX7_references_6 ?_
  obtain ⟨x5, ex5, hF⟩ := ltt_some hF
  refine lv_topi (fun zx5 ezx5 => ?_)
  obtain rfl : x5 = zx5 := ex5.trans ezx5.symm
  refine lv_icmp_ge (tgt := 38) hx hb dX7_references_9 (by decide) (fun c6 => ?_) (fun c6 => ?_)
  · rw [if_pos c6] at hF
    obtain rfl := Option.some.inj hF
    subst hwz4
    exact K1 _ _ _ hP hD hS (lv_sub hl [0, 1, 2] rfl)
  · rw [if_neg c6] at hF
    refine lv_iload_n hx hb dX7_references_12 rfl (lv_at hl 1 rfl) ?_
    refine lv_aload_n hx hb dX7_references_13 rfl (lv_at hl 2 rfl) ?_
    refine va_get (D := D) (ci := 7) (v := va_re ad (M.2 a 2)) (C := RX7) (T := TX7) (N := 17) hx hb hts (by decide +kernel) hown hK hP a (wld_o ct ad G M hc hk (by decide)) rfl 2 (by decide) (hts (.fieldLink RX7 17 "VideoSuite$Store" "kept" "[LVideoSuite$Picture;") (by decide +kernel)) (fun _ h9 => h9) rfl dX7_references_14 ?_
    refine lv_iload_n hx hb dX7_references_17 rfl (lv_at hl 0 rfl) ?_
    obtain ⟨b7, ho7, hc7, hk7, hF⟩ := dr_some hF
    refine W_st (st' := [.int s2.2, .ref (ad b7), .int s2.1]) (by rw [va_some ho7]) ?_
    obtain ⟨hvc, hF⟩ := chk_some hF
    refine ld_q hx hb hK hP hc7 hk7 hvc dX7_references_18 ?_
    obtain ⟨b8, ho8, hc8, hk8, hF⟩ := dr_some hF
    refine W_st (st' := [.ref (ad b8), .int s2.1]) (by rw [va_some ho8]) ?_
    refine va_get (D := D) (ci := 4) (v := .int (M.1 b8 10)) (C := RX4) (T := TX4) (N := 18) hx hb hts (by decide +kernel) hown hK hP b8 (wld_o ct ad G M hc8 hk8 (by decide)) rfl 10 (by decide) (hts (.fieldLink RX7 123 "VideoSuite$Picture" "use" "I") (by decide +kernel)) (fun _ h9 => h9) rfl dX7_references_19 ?_
    obtain ⟨x9, ex9, hF⟩ := ltt_some hF
    refine lv_topi (fun zx9 ezx9 => ?_)
    obtain rfl : x9 = zx9 := ex9.trans ezx9.symm
    obtain ⟨y10, hy10, hF⟩ := bnd_some hF
    have J10 : ∀ (H : Heap) (locs : List Loc) (ls : Array Slot), va_P D classes (wld ct ad G M) H → va_D A (wld ct ad G M) → va_S A s.heap H locs → lv_has ls 3 [(2, .int s2.2), (1, .int s2.1), (0, .ref (ad a))] → W p l e (headSpec wsX7_references ({ frames := 0, cells := 0, slots := 0, locals := 0 })).room s m ([.ref (ad a)] : List Value).toArray below meth c H locs 0 0 (MQ below (va_Qi (fun (q : Int32) (_ : Unit) => q = y.2) (fun _ t => kE D ct ad G A y.1 t) A) ([.ref (ad a)] : List Value).toArray s 0 0 A) (F0 m 30 ls [.int y10, .int s2.1]) := by
      intro H locs ls hP hD hS hl
      refine lv_iadd hx hb dX7_references_30 ?_
      obtain ⟨x11, ex11, hF⟩ := ltt_some hF
      refine lv_topi (fun zx11 ezx11 => ?_)
      obtain rfl : x11 = zx11 := ex11.trans ezx11.symm
      refine lv_istore_n (lv' := [(1, .int x11), (2, .int s2.2), (0, .ref (ad a))]) hx hb dX7_references_31 rfl hl (by decide) rfl (fun ls hl => ?_)
      obtain ⟨x12, ex12, hF⟩ := ltt_some hF
      refine lv_iinc (v := x12) (lv' := [(2, .int x12), (1, .int x11), (0, .ref (ad a))]) hx hb dX7_references_32 hl (k := 1) rfl (by rw [ex12]; rfl) (by decide) rfl (fun ls hl => ?_)
      refine lv_goto (tgt := 4) hx hb dX7_references_35 (by decide) ?_
      obtain rfl := Option.some.inj hF
      exact hwz4 _ _ _ hP hD hS (lv_sub hl [0, 1, 2] rfl)
    clear hF
    have hF := hy10
    clear hy10
    refine lv_if_eq (tgt := 29) hx hb dX7_references_22 (by decide) (fun c13 => ?_) (fun c13 => ?_)
    · rw [if_pos c13] at hF
      refine lv_iconst (v := (0 : Int32)) hx hb dX7_references_29 (by decide) ?_
      obtain rfl := Option.some.inj hF
      exact J10 _ _ _ hP hD hS (lv_sub hl [0, 1, 2] rfl)
    · rw [if_neg c13] at hF
      refine lv_iconst (v := (1 : Int32)) hx hb dX7_references_25 (by decide) ?_
      refine lv_goto (tgt := 30) hx hb dX7_references_26 (by decide) ?_
      obtain rfl := Option.some.inj hF
      exact J10 _ _ _ hP hD hS (lv_sub hl [0, 1, 2] rfl)
theorem dX7_release_0 : decode cX7_release 0 = .ok (.aload_n 0, 1) := by decide +kernel
theorem dX7_release_1 : decode cX7_release 1 = .ok (.iconst 0, 1) := by decide +kernel
theorem dX7_release_2 : decode cX7_release 2 = .ok (.putfield 123, 3) := by decide +kernel
theorem dX7_release_5 : decode cX7_release 5 = .ok (.aload_n 0, 1) := by decide +kernel
theorem dX7_release_6 : decode cX7_release 6 = .ok (.iconst (-1), 1) := by decide +kernel
theorem dX7_release_7 : decode cX7_release 7 = .ok (.putfield 129, 3) := by decide +kernel
theorem dX7_release_10 : decode cX7_release 10 = .ok (.return_, 1) := by decide +kernel
def FX7_release (G : GG) (M : DD) (p0 : Option Nat) : Option (DD) :=
  dr G 4 p0 fun b1 =>
  ltt (uI M b1 10 ((0 : Int32))) fun M2 =>
  ltt (uI M2 b1 11 ((-1 : Int32))) fun M3 =>
  some M3
set_option maxHeartbeats 4000000 in
set_option maxRecDepth 100000 in
theorem kX7_release (l : Launch) (D : va_G) (ct : CT) (ad : Nat → Nat) (Z : Nat → Nat) (G : GG) (M : DD) (sz : Nat) (p0 : Option Nat) (y : DD) (hF : FX7_release G M p0 = some y) : Met l yX7_release wsX7_release ({ frames := 0, cells := 0, slots := 0, locals := 0 }) (va_Pc [va_re ad p0] (kB D ct ad Z G M sz)) (va_Qv (fun (_ : Unit) => True) (fun _ t => kE D ct ad G (wA ad G sz) y t) (wA ad G sz)) 0 0 (wA ad G sz) := by
  refine Met.ofW (cc := cX7_release) (maxL := 1) (ret := none) (by decide) rfl ?_
  intro p e s m args below meth c s₁ B hml hv
  obtain ⟨rfl, hsz, hP, hK, hD0, hZ, hN⟩ := hv
  have hx := B.exec
  have hb := B.bytes
  have hr := B.returns
  have hts := atoms_spec (ws := wsX7_release) B.pre
  have hown : s.vm.findClass RX7 = some m.cls := findClass_of_methodNamed B.named
  have hlocks := B.notSynchronized
  subst hsz
  have hD := wD_self (sz := s.heap.size) hD0
  have hA9 : ∀ q, s.heap.size ≤ q → wA ad G s.heap.size q := fun q h => Or.inr h
  generalize hAe : wA ad G s.heap.size = A at hD hA9 hZ ⊢
  have hS : va_S A s.heap s.heap [] := va_S.rf
  have hl := lv_entry ([va_re ad p0]) (n := 1) (by cases p0 <;> exact Nat.le_of_ble_eq_true rfl)
  rw [lg_entry_eq]
  generalize (lg_sl ([va_re ad p0]) ++ List.replicate (1 - (lg_sl ([va_re ad p0])).length) Slot.unset).toArray = ls at hl ⊢
  have hl : lv_has ls 1 [(0, va_re ad p0)] := by have e9 : lv_args 0 [va_re ad p0] = [(0, va_re ad p0)] := (by cases p0 <;> rfl); rw [e9] at hl; exact hl
  unfold FX7_release at hF
  refine lv_aloadq_n hx hb dX7_release_0 rfl (lv_at hl 0 rfl) ?_
  refine lv_iconst (v := (0 : Int32)) hx hb dX7_release_1 (by decide) ?_
  obtain ⟨b1, ho1, hc1, hk1, hF⟩ := dr_some hF
  refine W_st (st' := [.int (0 : Int32), .ref (ad b1)]) (by rw [va_some ho1]) ?_
  refine va_put (D := D) (ci := 4) (v := .int (0 : Int32)) (ty := .int) (C := RX4) (T := TX4) (N := 18) hx hb hts (by decide +kernel) tyX4 tyX4_ok nmX4 hown hK hP hD hS b1 (wld_o ct ad G M hc1 hk1 (by decide)) rfl 10 (by decide) (hts (.fieldLink RX7 123 "VideoSuite$Picture" "use" "I") (by decide +kernel)) (fun _ h9 => h9) rfl (by decide +kernel) rfl rfl (Nat.le_of_ble_eq_true rfl) dX7_release_2 (fun H locs hP hD hS => ?_)
  obtain ⟨M2, eM2, hF⟩ := ltt_some hF
  rw [set_oI ct ad G M hc1 hk1 (by decide) (by rfl), ← eM2] at hP hD
  refine lv_aloadq_n hx hb dX7_release_5 rfl (lv_at hl 0 rfl) ?_
  refine lv_iconst (v := (-1 : Int32)) hx hb dX7_release_6 (by decide) ?_
  refine W_st (st' := [.int (-1 : Int32), .ref (ad b1)]) (by rw [va_some ho1]) ?_
  refine va_put (D := D) (ci := 4) (v := .int (-1 : Int32)) (ty := .int) (C := RX4) (T := TX4) (N := 18) hx hb hts (by decide +kernel) tyX4 tyX4_ok nmX4 hown hK hP hD hS b1 (wld_o ct ad G M2 hc1 hk1 (by decide)) rfl 11 (by decide) (hts (.fieldLink RX7 129 "VideoSuite$Picture" "number" "I") (by decide +kernel)) (fun _ h9 => h9) rfl (by decide +kernel) rfl rfl (Nat.le_of_ble_eq_true rfl) dX7_release_7 (fun H locs hP hD hS => ?_)
  obtain ⟨M3, eM3, hF⟩ := ltt_some hF
  rw [set_oI ct ad G M2 hc1 hk1 (by decide) (by rfl), ← eM3] at hP hD
  obtain rfl := Option.some.inj hF
  exact W.vret hx hb hr (fun t ht hW => ⟨⟨(), rfl, trivial, ⟨by rw [ht]; exact hP, va_K.moved hW.alike hK, hD⟩⟩, hS.F ht⟩) hS.2.2 dX7_release_10
theorem ggX7_releaseAll_X7_release : GoodIn wsX7_releaseAll wsX7_release := goodIn_r _ [6, 7, 8, 26, 27, 28, 29, 30, 31, 32, 33, 34, 35, 36, 37, 38, 39, 40, 41, 42, 43] (by decide +kernel) (by decide +kernel)
set_option maxRecDepth 20000 in
theorem gX7_releaseAll_X7_release : GoodIn wsX7_releaseAll (va_wsS RX7 152 yX7_release wsX7_release) := goodIn_app (goodIn_of _ (by decide +kernel)) ggX7_releaseAll_X7_release
theorem dX7_releaseAll_0 : decode cX7_releaseAll 0 = .ok (.iconst 0, 1) := by decide +kernel
theorem dX7_releaseAll_1 : decode cX7_releaseAll 1 = .ok (.istore_n 1, 1) := by decide +kernel
theorem dX7_releaseAll_2 : decode cX7_releaseAll 2 = .ok (.iload_n 1, 1) := by decide +kernel
theorem dX7_releaseAll_3 : decode cX7_releaseAll 3 = .ok (.aload_n 0, 1) := by decide +kernel
theorem dX7_releaseAll_4 : decode cX7_releaseAll 4 = .ok (.getfield 29, 3) := by decide +kernel
theorem dX7_releaseAll_7 : decode cX7_releaseAll 7 = .ok (.if_icmp .ge 18, 3) := by decide +kernel
theorem dX7_releaseAll_10 : decode cX7_releaseAll 10 = .ok (.aload_n 0, 1) := by decide +kernel
theorem dX7_releaseAll_11 : decode cX7_releaseAll 11 = .ok (.getfield 17, 3) := by decide +kernel
theorem dX7_releaseAll_14 : decode cX7_releaseAll 14 = .ok (.iload_n 1, 1) := by decide +kernel
theorem dX7_releaseAll_15 : decode cX7_releaseAll 15 = .ok (.aaload, 1) := by decide +kernel
theorem dX7_releaseAll_16 : decode cX7_releaseAll 16 = .ok (.invokestatic 152, 3) := by decide +kernel
theorem dX7_releaseAll_19 : decode cX7_releaseAll 19 = .ok (.iinc 1 1, 3) := by decide +kernel
theorem dX7_releaseAll_22 : decode cX7_releaseAll 22 = .ok (.goto (-20), 3) := by decide +kernel
theorem dX7_releaseAll_25 : decode cX7_releaseAll 25 = .ok (.return_, 1) := by decide +kernel
def FX7_releaseAll (G : GG) (M : DD) (a : Nat)  : Option (DD) :=
  bnd (itr (fun (s2 : Int32 × DD) => ((ltt (s2.2.1 a 3) fun x5 =>
  if x5 ≤ s2.1 then (some (.inr (s2.1, s2.2))) else
  (dr G 14 ((s2.2.2 a 2)) fun b7 =>
  chk (¬ (s2.1 < 0 ∨ G.2.2 b7 ≤ s2.1.toNatClampNeg)) <|
  bnd (FX7_release G s2.2 ((s2.2.2 b7 s2.1.toNatClampNeg))) fun y8 =>
  ltt (s2.1 + (1 : Int32)) fun x9 =>
  some (.inl (x9, y8)))) : Option ((Int32 × DD) ⊕ (Int32 × DD)))) 1000000 ((0 : Int32), M)) fun (y1 : Int32 × DD) =>
  some y1.2
set_option maxHeartbeats 4000000 in
set_option maxRecDepth 100000 in
theorem kX7_releaseAll (l : Launch) (D : va_G) (ct : CT) (ad : Nat → Nat) (Z : Nat → Nat) (G : GG) (M : DD) (sz : Nat) (a : Nat)  (y : DD) (hc : a < G.1) (hk : G.2.1 a = 7) (hF : FX7_releaseAll G M a  = some y) : Met l yX7_releaseAll wsX7_releaseAll ({ frames := 1, cells := 0, slots := 0, locals := 20 }) (va_Pc [.ref (ad a)] (kB D ct ad Z G M sz)) (va_Qv (fun (_ : Unit) => True) (fun _ t => kE D ct ad G (wA ad G sz) y t) (wA ad G sz)) 0 0 (wA ad G sz) := by
  refine Met.ofW (cc := cX7_releaseAll) (maxL := 2) (ret := none) (by decide) rfl ?_
  intro p e s m args below meth c s₁ B hml hv
  obtain ⟨rfl, hsz, hP, hK, hD0, hZ, hN⟩ := hv
  have hx := B.exec
  have hb := B.bytes
  have hr := B.returns
  have hts := atoms_spec (ws := wsX7_releaseAll) B.pre
  have hown : s.vm.findClass RX7 = some m.cls := findClass_of_methodNamed B.named
  have hlocks := B.notSynchronized
  subst hsz
  have hD := wD_self (sz := s.heap.size) hD0
  have hA9 : ∀ q, s.heap.size ≤ q → wA ad G s.heap.size q := fun q h => Or.inr h
  generalize hAe : wA ad G s.heap.size = A at hD hA9 hZ ⊢
  have hS : va_S A s.heap s.heap [] := va_S.rf
  have hl := lv_entry ([.ref (ad a)]) (n := 2) (Nat.le_of_ble_eq_true rfl)
  rw [lg_entry_eq]
  generalize (lg_sl ([.ref (ad a)]) ++ List.replicate (2 - (lg_sl ([.ref (ad a)])).length) Slot.unset).toArray = ls at hl ⊢
  have hl : lv_has ls 2 [(0, .ref (ad a))] := hl
  unfold FX7_releaseAll at hF
  refine lv_iconst (v := (0 : Int32)) hx hb dX7_releaseAll_0 (by decide) ?_
  refine lv_istore_n (lv' := [(1, .int (0 : Int32)), (0, .ref (ad a))]) hx hb dX7_releaseAll_1 rfl hl (by decide) rfl (fun ls hl => ?_)
  obtain ⟨y1, hy1, hF⟩ := bnd_some hF
  have K1 : ∀ (H : Heap) (locs : List Loc) (ls : Array Slot), va_P D classes (wld ct ad G y1.2) H → va_D A (wld ct ad G y1.2) → va_S A s.heap H locs → lv_has ls 2 [(1, .int y1.1), (0, .ref (ad a))] → W p l e (headSpec wsX7_releaseAll ({ frames := 1, cells := 0, slots := 0, locals := 20 })).room s m ([.ref (ad a)] : List Value).toArray below meth c H locs 0 0 (MQ below (va_Qv (fun (_ : Unit) => True) (fun _ t => kE D ct ad G A y t) A) ([.ref (ad a)] : List Value).toArray s 0 0 A) (F0 m 25 ls []) := by
    intro H locs ls hP hD hS hl
    obtain rfl := Option.some.inj hF
    exact W.vret hx hb hr (fun t ht hW => ⟨⟨(), rfl, trivial, ⟨by rw [ht]; exact hP, va_K.moved hW.alike hK, hD⟩⟩, hS.F ht⟩) hS.2.2 dX7_releaseAll_25
  clear hF
  refine itr_rule (fun (s2 : Int32 × DD) => ∀ (H : Heap) (locs : List Loc) (ls : Array Slot), va_P D classes (wld ct ad G s2.2) H → va_D A (wld ct ad G s2.2) → va_S A s.heap H locs → lv_has ls 2 [(1, .int s2.1), (0, .ref (ad a))] → W p l e (headSpec wsX7_releaseAll ({ frames := 1, cells := 0, slots := 0, locals := 20 })).room s m ([.ref (ad a)] : List Value).toArray below meth c H locs 0 0 (MQ below (va_Qv (fun (_ : Unit) => True) (fun _ t => kE D ct ad G A y t) A) ([.ref (ad a)] : List Value).toArray s 0 0 A) (F0 m 2 ls [])) ?_ _ _ hy1 _ _ _ hP hD hS (lv_sub hl [0, 1] rfl)
  rintro s2 ⟨z4, hF, hwz4⟩ H locs ls hP hD hS hl
  try dsimp only at hF
  refine lv_iload_n hx hb dX7_releaseAll_2 rfl (lv_at hl 0 rfl) ?_
  refine lv_aload_n hx hb dX7_releaseAll_3 rfl (lv_at hl 1 rfl) ?_
  refine va_get (D := D) (ci := 7) (v := .int (s2.2.1 a 3)) (C := RX7) (T := TX7) (N := 17) hx hb hts (by decide +kernel) hown hK hP a (wld_o ct ad G s2.2 hc hk (by decide)) rfl 3 (by decide) (hts (.fieldLink RX7 29 "VideoSuite$Store" "count" "I") (by decide +kernel)) (fun _ h9 => h9) rfl dX7_releaseAll_4 ?_
  obtain ⟨x5, ex5, hF⟩ := ltt_some hF
  refine lv_topi (fun zx5 ezx5 => ?_)
  obtain rfl : x5 = zx5 := ex5.trans ezx5.symm
  refine lv_icmp_ge (tgt := 25) hx hb dX7_releaseAll_7 (by decide) (fun c6 => ?_) (fun c6 => ?_)
  · rw [if_pos c6] at hF
    obtain rfl := Option.some.inj hF
    subst hwz4
    exact K1 _ _ _ hP hD hS (lv_sub hl [0, 1] rfl)
  · rw [if_neg c6] at hF
    refine lv_aload_n hx hb dX7_releaseAll_10 rfl (lv_at hl 1 rfl) ?_
    refine va_get (D := D) (ci := 7) (v := va_re ad (s2.2.2 a 2)) (C := RX7) (T := TX7) (N := 17) hx hb hts (by decide +kernel) hown hK hP a (wld_o ct ad G s2.2 hc hk (by decide)) rfl 2 (by decide) (hts (.fieldLink RX7 17 "VideoSuite$Store" "kept" "[LVideoSuite$Picture;") (by decide +kernel)) (fun _ h9 => h9) rfl dX7_releaseAll_11 ?_
    refine lv_iload_n hx hb dX7_releaseAll_14 rfl (lv_at hl 0 rfl) ?_
    obtain ⟨b7, ho7, hc7, hk7, hF⟩ := dr_some hF
    refine W_st (st' := [.int s2.1, .ref (ad b7)]) (by rw [va_some ho7]) ?_
    obtain ⟨hvc, hF⟩ := chk_some hF
    refine ld_q hx hb hK hP hc7 hk7 hvc dX7_releaseAll_15 ?_
    obtain ⟨y8, hy8, hF⟩ := bnd_some hF
    have hf9 := wA_in hD hA9 hS
    refine va_callv (va_runS (As := [va_re ad (s2.2.2 b7 s2.1.toNatClampNeg)]) (rest := []) ⟨hx, hb, hml, hown, hts⟩ (kX7_release l D ct ad Z G s2.2 H.size ((s2.2.2 b7 s2.1.toNatClampNeg)) y8 hy8) (va_cwS 1 hts gX7_releaseAll_X7_release rfl rfl rfl (by decide +kernel) ⟨Nat.le_of_ble_eq_true rfl, Nat.le_of_ble_eq_true rfl⟩) ⟨fun a U g mk q => by obtain ⟨q0, q1, qP, qK, qD, qZ, qN⟩ := q; exact ⟨q0, q1, qP, va_K.moved (u := U) (U := U.calling g mk a) (Vm.Alike.refl U.vm) qK, qD, sF.moved (u := U) (U := U.calling g mk a) (Vm.Alike.refl U.vm) qZ, nF.same rfl qN⟩, fun U hU hW => ⟨rfl, by rw [hU], by rw [hU]; exact hP, va_K.moved hW.alike hK, hD.weaken (fun _ _ _ _ => trivial), by rw [hU]; exact ((hZ.kept hS.2.1).narrow hf9).moved hW.alike, hN.warm hW⟩⟩ rfl rfl hl.1 rfl (lv_room (Nat.le_of_ble_eq_true rfl)) dX7_releaseAll_16 ⟨(Nat.zero_le _), (Nat.zero_le _)⟩) hS (fun q _ h => hf9 q h) hf9 (fun u t H locs ht hvm hw hB hz1 hk1 hS => ?_)
    obtain ⟨hP, hK9, hD9⟩ := hB
    rw [ht] at hP
    have hD := hD9.weaken (fun _ q _ h => hf9 q.1 h)
    obtain ⟨x9, ex9, hF⟩ := ltt_some hF
    refine lv_iinc (v := x9) (lv' := [(1, .int x9), (0, .ref (ad a))]) hx hb dX7_releaseAll_19 hl (k := 0) rfl (by rw [ex9]; rfl) (by decide) rfl (fun ls hl => ?_)
    refine lv_goto (tgt := 2) hx hb dX7_releaseAll_22 (by decide) ?_
    obtain rfl := Option.some.inj hF
    exact hwz4 _ _ _ hP hD hS (lv_sub hl [0, 1] rfl)
theorem ggX7_releaseLong_X7_release : GoodIn wsX7_releaseLong wsX7_release := goodIn_r _ [8, 3, 4, 26, 27, 28, 29, 30, 31, 32, 33, 34, 35, 36, 37, 38, 39, 40, 41, 42, 43] (by decide +kernel) (by decide +kernel)
set_option maxRecDepth 20000 in
theorem gX7_releaseLong_X7_release : GoodIn wsX7_releaseLong (va_wsS RX7 152 yX7_release wsX7_release) := goodIn_app (goodIn_of _ (by decide +kernel)) ggX7_releaseLong_X7_release
theorem dX7_releaseLong_0 : decode cX7_releaseLong 0 = .ok (.iconst 0, 1) := by decide +kernel
theorem dX7_releaseLong_1 : decode cX7_releaseLong 1 = .ok (.istore_n 2, 1) := by decide +kernel
theorem dX7_releaseLong_2 : decode cX7_releaseLong 2 = .ok (.iload_n 2, 1) := by decide +kernel
theorem dX7_releaseLong_3 : decode cX7_releaseLong 3 = .ok (.aload_n 0, 1) := by decide +kernel
theorem dX7_releaseLong_4 : decode cX7_releaseLong 4 = .ok (.getfield 29, 3) := by decide +kernel
theorem dX7_releaseLong_7 : decode cX7_releaseLong 7 = .ok (.if_icmp .ge 45, 3) := by decide +kernel
theorem dX7_releaseLong_10 : decode cX7_releaseLong 10 = .ok (.aload_n 0, 1) := by decide +kernel
theorem dX7_releaseLong_11 : decode cX7_releaseLong 11 = .ok (.getfield 17, 3) := by decide +kernel
theorem dX7_releaseLong_14 : decode cX7_releaseLong 14 = .ok (.iload_n 2, 1) := by decide +kernel
theorem dX7_releaseLong_15 : decode cX7_releaseLong 15 = .ok (.aaload, 1) := by decide +kernel
theorem dX7_releaseLong_16 : decode cX7_releaseLong 16 = .ok (.getfield 123, 3) := by decide +kernel
theorem dX7_releaseLong_19 : decode cX7_releaseLong 19 = .ok (.iconst 2, 1) := by decide +kernel
theorem dX7_releaseLong_20 : decode cX7_releaseLong 20 = .ok (.if_icmp .ne 26, 3) := by decide +kernel
theorem dX7_releaseLong_23 : decode cX7_releaseLong 23 = .ok (.aload_n 0, 1) := by decide +kernel
theorem dX7_releaseLong_24 : decode cX7_releaseLong 24 = .ok (.getfield 17, 3) := by decide +kernel
theorem dX7_releaseLong_27 : decode cX7_releaseLong 27 = .ok (.iload_n 2, 1) := by decide +kernel
theorem dX7_releaseLong_28 : decode cX7_releaseLong 28 = .ok (.aaload, 1) := by decide +kernel
theorem dX7_releaseLong_29 : decode cX7_releaseLong 29 = .ok (.getfield 129, 3) := by decide +kernel
theorem dX7_releaseLong_32 : decode cX7_releaseLong 32 = .ok (.iload_n 1, 1) := by decide +kernel
theorem dX7_releaseLong_33 : decode cX7_releaseLong 33 = .ok (.if_icmp .ne 13, 3) := by decide +kernel
theorem dX7_releaseLong_36 : decode cX7_releaseLong 36 = .ok (.aload_n 0, 1) := by decide +kernel
theorem dX7_releaseLong_37 : decode cX7_releaseLong 37 = .ok (.getfield 17, 3) := by decide +kernel
theorem dX7_releaseLong_40 : decode cX7_releaseLong 40 = .ok (.iload_n 2, 1) := by decide +kernel
theorem dX7_releaseLong_41 : decode cX7_releaseLong 41 = .ok (.aaload, 1) := by decide +kernel
theorem dX7_releaseLong_42 : decode cX7_releaseLong 42 = .ok (.invokestatic 152, 3) := by decide +kernel
theorem dX7_releaseLong_45 : decode cX7_releaseLong 45 = .ok (.return_, 1) := by decide +kernel
theorem dX7_releaseLong_46 : decode cX7_releaseLong 46 = .ok (.iinc 2 1, 3) := by decide +kernel
theorem dX7_releaseLong_49 : decode cX7_releaseLong 49 = .ok (.goto (-47), 3) := by decide +kernel
theorem dX7_releaseLong_52 : decode cX7_releaseLong 52 = .ok (.return_, 1) := by decide +kernel
def FX7_releaseLong (G : GG) (M : DD) (a : Nat) (p0 : Int32) : Option (DD) :=
  bnd (itr (fun (s2 : Int32 × DD) => ((ltt (s2.2.1 a 3) fun x5 =>
  if x5 ≤ s2.1 then (some (.inr (.inl (s2.1, s2.2)))) else
  (dr G 14 ((s2.2.2 a 2)) fun b7 =>
  chk (¬ (s2.1 < 0 ∨ G.2.2 b7 ≤ s2.1.toNatClampNeg)) <|
  dr G 4 ((s2.2.2 b7 s2.1.toNatClampNeg)) fun b8 =>
  ltt (s2.2.1 b8 10) fun x9 =>
  if x9 = ((2 : Int32)) then (chk (¬ (s2.1 < 0 ∨ G.2.2 b7 ≤ s2.1.toNatClampNeg)) <|
  ltt (s2.2.1 b8 11) fun x12 =>
  if x12 = p0 then (chk (¬ (s2.1 < 0 ∨ G.2.2 b7 ≤ s2.1.toNatClampNeg)) <|
  bnd (FX7_release G s2.2 ((s2.2.2 b7 s2.1.toNatClampNeg))) fun y15 =>
  some (.inr (.inr y15))) else
  (ltt (s2.1 + (1 : Int32)) fun x14 =>
  some (.inl (x14, s2.2)))) else
  (ltt (s2.1 + (1 : Int32)) fun x11 =>
  some (.inl (x11, s2.2))))) : Option ((Int32 × DD) ⊕ ((Int32 × DD) ⊕ (DD))))) 1000000 ((0 : Int32), M)) fun (y1 : (Int32 × DD) ⊕ (DD)) =>
  sel y1 (fun (z1k : Int32 × DD) =>
  some z1k.2) fun r9 => some r9
set_option maxHeartbeats 4000000 in
set_option maxRecDepth 100000 in
theorem kX7_releaseLong (l : Launch) (D : va_G) (ct : CT) (ad : Nat → Nat) (Z : Nat → Nat) (G : GG) (M : DD) (sz : Nat) (a : Nat) (p0 : Int32) (y : DD) (hc : a < G.1) (hk : G.2.1 a = 7) (hF : FX7_releaseLong G M a p0 = some y) : Met l yX7_releaseLong wsX7_releaseLong ({ frames := 1, cells := 0, slots := 0, locals := 20 }) (va_Pc [.ref (ad a), .int p0] (kB D ct ad Z G M sz)) (va_Qv (fun (_ : Unit) => True) (fun _ t => kE D ct ad G (wA ad G sz) y t) (wA ad G sz)) 0 0 (wA ad G sz) := by
  refine Met.ofW (cc := cX7_releaseLong) (maxL := 3) (ret := none) (by decide) rfl ?_
  intro p e s m args below meth c s₁ B hml hv
  obtain ⟨rfl, hsz, hP, hK, hD0, hZ, hN⟩ := hv
  have hx := B.exec
  have hb := B.bytes
  have hr := B.returns
  have hts := atoms_spec (ws := wsX7_releaseLong) B.pre
  have hown : s.vm.findClass RX7 = some m.cls := findClass_of_methodNamed B.named
  have hlocks := B.notSynchronized
  subst hsz
  have hD := wD_self (sz := s.heap.size) hD0
  have hA9 : ∀ q, s.heap.size ≤ q → wA ad G s.heap.size q := fun q h => Or.inr h
  generalize hAe : wA ad G s.heap.size = A at hD hA9 hZ ⊢
  have hS : va_S A s.heap s.heap [] := va_S.rf
  have hl := lv_entry ([.ref (ad a), .int p0]) (n := 3) (Nat.le_of_ble_eq_true rfl)
  rw [lg_entry_eq]
  generalize (lg_sl ([.ref (ad a), .int p0]) ++ List.replicate (3 - (lg_sl ([.ref (ad a), .int p0])).length) Slot.unset).toArray = ls at hl ⊢
  have hl : lv_has ls 3 [(0, .ref (ad a)), (1, .int p0)] := hl
  unfold FX7_releaseLong at hF
  refine lv_iconst (v := (0 : Int32)) hx hb dX7_releaseLong_0 (by decide) ?_
  refine lv_istore_n (lv' := [(2, .int (0 : Int32)), (0, .ref (ad a)), (1, .int p0)]) hx hb dX7_releaseLong_1 rfl hl (by decide) rfl (fun ls hl => ?_)
  obtain ⟨y1, hy1, hF⟩ := bnd_some hF
  have K1 : ∀ z1k : Int32 × DD, y1 = .inl z1k → ∀ (H : Heap) (locs : List Loc) (ls : Array Slot), va_P D classes (wld ct ad G z1k.2) H → va_D A (wld ct ad G z1k.2) → va_S A s.heap H locs → lv_has ls 3 [(2, .int z1k.1), (0, .ref (ad a)), (1, .int p0)] → W p l e (headSpec wsX7_releaseLong ({ frames := 1, cells := 0, slots := 0, locals := 20 })).room s m ([.ref (ad a), .int p0] : List Value).toArray below meth c H locs 0 0 (MQ below (va_Qv (fun (_ : Unit) => True) (fun _ t => kE D ct ad G A y t) A) ([.ref (ad a), .int p0] : List Value).toArray s 0 0 A) (F0 m 52 ls []) := by
    intro z1k hz1 H locs ls hP hD hS hl
    have hF := sel_inl (hz1 ▸ hF)
    obtain rfl := Option.some.inj hF
    exact W.vret hx hb hr (fun t ht hW => ⟨⟨(), rfl, trivial, ⟨by rw [ht]; exact hP, va_K.moved hW.alike hK, hD⟩⟩, hS.F ht⟩) hS.2.2 dX7_releaseLong_52
  have hR1 := hF
  clear hF
  refine itr_rule (fun (s2 : Int32 × DD) => ∀ (H : Heap) (locs : List Loc) (ls : Array Slot), va_P D classes (wld ct ad G s2.2) H → va_D A (wld ct ad G s2.2) → va_S A s.heap H locs → lv_has ls 3 [(2, .int s2.1), (0, .ref (ad a)), (1, .int p0)] → W p l e (headSpec wsX7_releaseLong ({ frames := 1, cells := 0, slots := 0, locals := 20 })).room s m ([.ref (ad a), .int p0] : List Value).toArray below meth c H locs 0 0 (MQ below (va_Qv (fun (_ : Unit) => True) (fun _ t => kE D ct ad G A y t) A) ([.ref (ad a), .int p0] : List Value).toArray s 0 0 A) (F0 m 2 ls [])) ?_ _ _ hy1 _ _ _ hP hD hS (lv_sub hl [0, 1, 2] rfl)
  rintro s2 ⟨z4, hF, hwz4⟩ H locs ls hP hD hS hl
  try dsimp only at hF
  refine lv_iload_n hx hb dX7_releaseLong_2 rfl (lv_at hl 0 rfl) ?_
  refine lv_aload_n hx hb dX7_releaseLong_3 rfl (lv_at hl 1 rfl) ?_
  refine va_get (D := D) (ci := 7) (v := .int (s2.2.1 a 3)) (C := RX7) (T := TX7) (N := 17) hx hb hts (by decide +kernel) hown hK hP a (wld_o ct ad G s2.2 hc hk (by decide)) rfl 3 (by decide) (hts (.fieldLink RX7 29 "VideoSuite$Store" "count" "I") (by decide +kernel)) (fun _ h9 => h9) rfl dX7_releaseLong_4 ?_
  obtain ⟨x5, ex5, hF⟩ := ltt_some hF
  refine lv_topi (fun zx5 ezx5 => ?_)
  obtain rfl : x5 = zx5 := ex5.trans ezx5.symm
  refine lv_icmp_ge (tgt := 52) hx hb dX7_releaseLong_7 (by decide) (fun c6 => ?_) (fun c6 => ?_)
  · rw [if_pos c6] at hF
    obtain rfl := Option.some.inj hF
    exact K1 _ hwz4.symm _ _ _ hP hD hS (lv_sub hl [0, 1, 2] rfl)
  · rw [if_neg c6] at hF
    refine lv_aload_n hx hb dX7_releaseLong_10 rfl (lv_at hl 1 rfl) ?_
    refine va_get (D := D) (ci := 7) (v := va_re ad (s2.2.2 a 2)) (C := RX7) (T := TX7) (N := 17) hx hb hts (by decide +kernel) hown hK hP a (wld_o ct ad G s2.2 hc hk (by decide)) rfl 2 (by decide) (hts (.fieldLink RX7 17 "VideoSuite$Store" "kept" "[LVideoSuite$Picture;") (by decide +kernel)) (fun _ h9 => h9) rfl dX7_releaseLong_11 ?_
    refine lv_iload_n hx hb dX7_releaseLong_14 rfl (lv_at hl 0 rfl) ?_
    obtain ⟨b7, ho7, hc7, hk7, hF⟩ := dr_some hF
    refine W_st (st' := [.int s2.1, .ref (ad b7)]) (by rw [va_some ho7]) ?_
    obtain ⟨hvc, hF⟩ := chk_some hF
    refine ld_q hx hb hK hP hc7 hk7 hvc dX7_releaseLong_15 ?_
    obtain ⟨b8, ho8, hc8, hk8, hF⟩ := dr_some hF
    refine W_st (st' := [.ref (ad b8)]) (by rw [va_some ho8]) ?_
    refine va_get (D := D) (ci := 4) (v := .int (s2.2.1 b8 10)) (C := RX4) (T := TX4) (N := 18) hx hb hts (by decide +kernel) hown hK hP b8 (wld_o ct ad G s2.2 hc8 hk8 (by decide)) rfl 10 (by decide) (hts (.fieldLink RX7 123 "VideoSuite$Picture" "use" "I") (by decide +kernel)) (fun _ h9 => h9) rfl dX7_releaseLong_16 ?_
    obtain ⟨x9, ex9, hF⟩ := ltt_some hF
    refine lv_topi (fun zx9 ezx9 => ?_)
    obtain rfl : x9 = zx9 := ex9.trans ezx9.symm
    refine lv_iconst (v := (2 : Int32)) hx hb dX7_releaseLong_19 (by decide) ?_
    refine lv_icmp_ne (tgt := 46) hx hb dX7_releaseLong_20 (by decide) (fun c10 => ?_) (fun c10 => ?_)
    · rw [if_neg c10] at hF
      obtain ⟨x11, ex11, hF⟩ := ltt_some hF
      refine lv_iinc (v := x11) (lv' := [(2, .int x11), (0, .ref (ad a)), (1, .int p0)]) hx hb dX7_releaseLong_46 hl (k := 0) rfl (by rw [ex11]; rfl) (by decide) rfl (fun ls hl => ?_)
      refine lv_goto (tgt := 2) hx hb dX7_releaseLong_49 (by decide) ?_
      obtain rfl := Option.some.inj hF
      exact hwz4 _ _ _ hP hD hS (lv_sub hl [0, 1, 2] rfl)
    · rw [if_pos c10] at hF
      refine lv_aload_n hx hb dX7_releaseLong_23 rfl (lv_at hl 1 rfl) ?_
      refine va_get (D := D) (ci := 7) (v := va_re ad (s2.2.2 a 2)) (C := RX7) (T := TX7) (N := 17) hx hb hts (by decide +kernel) hown hK hP a (wld_o ct ad G s2.2 hc hk (by decide)) rfl 2 (by decide) (hts (.fieldLink RX7 17 "VideoSuite$Store" "kept" "[LVideoSuite$Picture;") (by decide +kernel)) (fun _ h9 => h9) rfl dX7_releaseLong_24 ?_
      refine lv_iload_n hx hb dX7_releaseLong_27 rfl (lv_at hl 0 rfl) ?_
      refine W_st (st' := [.int s2.1, .ref (ad b7)]) (by rw [va_some ho7]) ?_
      obtain ⟨hvc, hF⟩ := chk_some hF
      refine ld_q hx hb hK hP hc7 hk7 hvc dX7_releaseLong_28 ?_
      refine W_st (st' := [.ref (ad b8)]) (by rw [va_some ho8]) ?_
      refine va_get (D := D) (ci := 4) (v := .int (s2.2.1 b8 11)) (C := RX4) (T := TX4) (N := 18) hx hb hts (by decide +kernel) hown hK hP b8 (wld_o ct ad G s2.2 hc8 hk8 (by decide)) rfl 11 (by decide) (hts (.fieldLink RX7 129 "VideoSuite$Picture" "number" "I") (by decide +kernel)) (fun _ h9 => h9) rfl dX7_releaseLong_29 ?_
      obtain ⟨x12, ex12, hF⟩ := ltt_some hF
      refine lv_topi (fun zx12 ezx12 => ?_)
      obtain rfl : x12 = zx12 := ex12.trans ezx12.symm
      refine lv_iload_n hx hb dX7_releaseLong_32 rfl (lv_at hl 2 rfl) ?_
      refine lv_icmp_ne (tgt := 46) hx hb dX7_releaseLong_33 (by decide) (fun c13 => ?_) (fun c13 => ?_)
      · rw [if_neg c13] at hF
        obtain ⟨x14, ex14, hF⟩ := ltt_some hF
        refine lv_iinc (v := x14) (lv' := [(2, .int x14), (0, .ref (ad a)), (1, .int p0)]) hx hb dX7_releaseLong_46 hl (k := 0) rfl (by rw [ex14]; rfl) (by decide) rfl (fun ls hl => ?_)
        refine lv_goto (tgt := 2) hx hb dX7_releaseLong_49 (by decide) ?_
        obtain rfl := Option.some.inj hF
        exact hwz4 _ _ _ hP hD hS (lv_sub hl [0, 1, 2] rfl)
      · rw [if_pos c13] at hF
        refine lv_aload_n hx hb dX7_releaseLong_36 rfl (lv_at hl 1 rfl) ?_
        refine va_get (D := D) (ci := 7) (v := va_re ad (s2.2.2 a 2)) (C := RX7) (T := TX7) (N := 17) hx hb hts (by decide +kernel) hown hK hP a (wld_o ct ad G s2.2 hc hk (by decide)) rfl 2 (by decide) (hts (.fieldLink RX7 17 "VideoSuite$Store" "kept" "[LVideoSuite$Picture;") (by decide +kernel)) (fun _ h9 => h9) rfl dX7_releaseLong_37 ?_
        refine lv_iload_n hx hb dX7_releaseLong_40 rfl (lv_at hl 0 rfl) ?_
        refine W_st (st' := [.int s2.1, .ref (ad b7)]) (by rw [va_some ho7]) ?_
        obtain ⟨hvc, hF⟩ := chk_some hF
        refine ld_q hx hb hK hP hc7 hk7 hvc dX7_releaseLong_41 ?_
        obtain ⟨y15, hy15, hF⟩ := bnd_some hF
        have hf9 := wA_in hD hA9 hS
        refine va_callv (va_runS (As := [va_re ad (s2.2.2 b7 s2.1.toNatClampNeg)]) (rest := []) ⟨hx, hb, hml, hown, hts⟩ (kX7_release l D ct ad Z G s2.2 H.size ((s2.2.2 b7 s2.1.toNatClampNeg)) y15 hy15) (va_cwS 1 hts gX7_releaseLong_X7_release rfl rfl rfl (by decide +kernel) ⟨Nat.le_of_ble_eq_true rfl, Nat.le_of_ble_eq_true rfl⟩) ⟨fun a U g mk q => by obtain ⟨q0, q1, qP, qK, qD, qZ, qN⟩ := q; exact ⟨q0, q1, qP, va_K.moved (u := U) (U := U.calling g mk a) (Vm.Alike.refl U.vm) qK, qD, sF.moved (u := U) (U := U.calling g mk a) (Vm.Alike.refl U.vm) qZ, nF.same rfl qN⟩, fun U hU hW => ⟨rfl, by rw [hU], by rw [hU]; exact hP, va_K.moved hW.alike hK, hD.weaken (fun _ _ _ _ => trivial), by rw [hU]; exact ((hZ.kept hS.2.1).narrow hf9).moved hW.alike, hN.warm hW⟩⟩ rfl rfl hl.1 rfl (lv_room (Nat.le_of_ble_eq_true rfl)) dX7_releaseLong_42 ⟨(Nat.zero_le _), (Nat.zero_le _)⟩) hS (fun q _ h => hf9 q h) hf9 (fun u t H locs ht hvm hw hB hz1 hk1 hS => ?_)
        obtain ⟨hP, hK9, hD9⟩ := hB
        rw [ht] at hP
        have hD := hD9.weaken (fun _ q _ h => hf9 q.1 h)
        obtain rfl := Option.some.inj hF
        have hF := sel_inr (hwz4 ▸ hR1)
        obtain rfl := Option.some.inj hF
        exact W.vret hx hb hr (fun t ht hW => ⟨⟨(), rfl, trivial, ⟨by rw [ht]; exact hP, va_K.moved hW.alike hK, hD⟩⟩, hS.F ht⟩) hS.2.2 dX7_releaseLong_45
theorem ggX7_shortByNumber_X7_frameNumber : GoodIn wsX7_shortByNumber wsX7_frameNumber := goodIn_r _ [7, 8, 26, 27, 28, 29, 30, 31, 32, 33, 34, 35, 36, 37, 38, 39, 40, 41, 42, 43] (by decide +kernel) (by decide +kernel)
set_option maxRecDepth 20000 in
theorem gX7_shortByNumber_X7_frameNumber : GoodIn wsX7_shortByNumber (va_wsS RX7 134 yX7_frameNumber wsX7_frameNumber) := goodIn_app (goodIn_of _ (by decide +kernel)) ggX7_shortByNumber_X7_frameNumber
theorem dX7_shortByNumber_0 : decode cX7_shortByNumber 0 = .ok (.iconst 0, 1) := by decide +kernel
theorem dX7_shortByNumber_1 : decode cX7_shortByNumber 1 = .ok (.istore 4, 2) := by decide +kernel
theorem dX7_shortByNumber_3 : decode cX7_shortByNumber 3 = .ok (.iload 4, 2) := by decide +kernel
theorem dX7_shortByNumber_5 : decode cX7_shortByNumber 5 = .ok (.aload_n 0, 1) := by decide +kernel
theorem dX7_shortByNumber_6 : decode cX7_shortByNumber 6 = .ok (.getfield 29, 3) := by decide +kernel
theorem dX7_shortByNumber_9 : decode cX7_shortByNumber 9 = .ok (.if_icmp .ge 47, 3) := by decide +kernel
theorem dX7_shortByNumber_12 : decode cX7_shortByNumber 12 = .ok (.aload_n 0, 1) := by decide +kernel
theorem dX7_shortByNumber_13 : decode cX7_shortByNumber 13 = .ok (.getfield 17, 3) := by decide +kernel
theorem dX7_shortByNumber_16 : decode cX7_shortByNumber 16 = .ok (.iload 4, 2) := by decide +kernel
theorem dX7_shortByNumber_18 : decode cX7_shortByNumber 18 = .ok (.aaload, 1) := by decide +kernel
theorem dX7_shortByNumber_19 : decode cX7_shortByNumber 19 = .ok (.getfield 123, 3) := by decide +kernel
theorem dX7_shortByNumber_22 : decode cX7_shortByNumber 22 = .ok (.iconst 1, 1) := by decide +kernel
theorem dX7_shortByNumber_23 : decode cX7_shortByNumber 23 = .ok (.if_icmp .ne 27, 3) := by decide +kernel
theorem dX7_shortByNumber_26 : decode cX7_shortByNumber 26 = .ok (.aload_n 0, 1) := by decide +kernel
theorem dX7_shortByNumber_27 : decode cX7_shortByNumber 27 = .ok (.getfield 17, 3) := by decide +kernel
theorem dX7_shortByNumber_30 : decode cX7_shortByNumber 30 = .ok (.iload 4, 2) := by decide +kernel
theorem dX7_shortByNumber_32 : decode cX7_shortByNumber 32 = .ok (.aaload, 1) := by decide +kernel
theorem dX7_shortByNumber_33 : decode cX7_shortByNumber 33 = .ok (.iload_n 1, 1) := by decide +kernel
theorem dX7_shortByNumber_34 : decode cX7_shortByNumber 34 = .ok (.iload_n 3, 1) := by decide +kernel
theorem dX7_shortByNumber_35 : decode cX7_shortByNumber 35 = .ok (.invokestatic 134, 3) := by decide +kernel
theorem dX7_shortByNumber_38 : decode cX7_shortByNumber 38 = .ok (.iload_n 2, 1) := by decide +kernel
theorem dX7_shortByNumber_39 : decode cX7_shortByNumber 39 = .ok (.if_icmp .ne 11, 3) := by decide +kernel
theorem dX7_shortByNumber_42 : decode cX7_shortByNumber 42 = .ok (.aload_n 0, 1) := by decide +kernel
theorem dX7_shortByNumber_43 : decode cX7_shortByNumber 43 = .ok (.getfield 17, 3) := by decide +kernel
theorem dX7_shortByNumber_46 : decode cX7_shortByNumber 46 = .ok (.iload 4, 2) := by decide +kernel
theorem dX7_shortByNumber_48 : decode cX7_shortByNumber 48 = .ok (.aaload, 1) := by decide +kernel
theorem dX7_shortByNumber_49 : decode cX7_shortByNumber 49 = .ok (.areturn, 1) := by decide +kernel
theorem dX7_shortByNumber_50 : decode cX7_shortByNumber 50 = .ok (.iinc 4 1, 3) := by decide +kernel
theorem dX7_shortByNumber_53 : decode cX7_shortByNumber 53 = .ok (.goto (-50), 3) := by decide +kernel
theorem dX7_shortByNumber_56 : decode cX7_shortByNumber 56 = .ok (.aconst_null, 1) := by decide +kernel
theorem dX7_shortByNumber_57 : decode cX7_shortByNumber 57 = .ok (.areturn, 1) := by decide +kernel
def FX7_shortByNumber (G : GG) (M : DD) (a : Nat) (p0 : Int32) (p1 : Int32) (p2 : Int32) : Option (DD × Option Nat) :=
  bnd (itr (fun (s2 : Int32 × DD) => ((ltt (s2.2.1 a 3) fun x5 =>
  if x5 ≤ s2.1 then (some (.inr (.inl (s2.1, s2.2)))) else
  (dr G 14 ((s2.2.2 a 2)) fun b7 =>
  chk (¬ (s2.1 < 0 ∨ G.2.2 b7 ≤ s2.1.toNatClampNeg)) <|
  dr G 4 ((s2.2.2 b7 s2.1.toNatClampNeg)) fun b8 =>
  ltt (s2.2.1 b8 10) fun x9 =>
  if x9 = ((1 : Int32)) then (chk (¬ (s2.1 < 0 ∨ G.2.2 b7 ≤ s2.1.toNatClampNeg)) <|
  bnd (FX7_frameNumber G s2.2 ((s2.2.2 b7 s2.1.toNatClampNeg)) p0 p2) fun y12 =>
  if y12.2 = p1 then (dr G 14 ((y12.1.2 a 2)) fun b15 =>
  chk (¬ (s2.1 < 0 ∨ G.2.2 b15 ≤ s2.1.toNatClampNeg)) <|
  some (.inr (.inr (y12.1, (y12.1.2 b15 s2.1.toNatClampNeg))))) else
  (ltt (s2.1 + (1 : Int32)) fun x14 =>
  some (.inl (x14, y12.1)))) else
  (ltt (s2.1 + (1 : Int32)) fun x11 =>
  some (.inl (x11, s2.2))))) : Option ((Int32 × DD) ⊕ ((Int32 × DD) ⊕ (DD × Option Nat))))) 1000000 ((0 : Int32), M)) fun (y1 : (Int32 × DD) ⊕ (DD × Option Nat)) =>
  sel y1 (fun (z1k : Int32 × DD) =>
  some (z1k.2, none)) fun r9 => some r9
set_option maxHeartbeats 4000000 in
set_option maxRecDepth 100000 in
theorem kX7_shortByNumber (l : Launch) (D : va_G) (ct : CT) (ad : Nat → Nat) (Z : Nat → Nat) (G : GG) (M : DD) (sz : Nat) (a : Nat) (p0 : Int32) (p1 : Int32) (p2 : Int32) (y : DD × Option Nat) (hc : a < G.1) (hk : G.2.1 a = 7) (hF : FX7_shortByNumber G M a p0 p1 p2 = some y) : Met l yX7_shortByNumber wsX7_shortByNumber ({ frames := 1, cells := 0, slots := 0, locals := 22 }) (va_Pc [.ref (ad a), .int p0, .int p1, .int p2] (kB D ct ad Z G M sz)) (va_Qe ad (fun (q : Option Nat) (_ : Unit) => q = y.2) (fun _ t => kE D ct ad G (wA ad G sz) y.1 t) (wA ad G sz)) 0 0 (wA ad G sz) := by
  refine Met.ofW (cc := cX7_shortByNumber) (maxL := 5) (ret := (some (.object "VideoSuite$Picture"))) (by decide) rfl ?_
  intro p e s m args below meth c s₁ B hml hv
  obtain ⟨rfl, hsz, hP, hK, hD0, hZ, hN⟩ := hv
  have hx := B.exec
  have hb := B.bytes
  have hr := B.returns
  have hts := atoms_spec (ws := wsX7_shortByNumber) B.pre
  have hown : s.vm.findClass RX7 = some m.cls := findClass_of_methodNamed B.named
  have hlocks := B.notSynchronized
  subst hsz
  have hD := wD_self (sz := s.heap.size) hD0
  have hA9 : ∀ q, s.heap.size ≤ q → wA ad G s.heap.size q := fun q h => Or.inr h
  generalize hAe : wA ad G s.heap.size = A at hD hA9 hZ ⊢
  have hS : va_S A s.heap s.heap [] := va_S.rf
  have hl := lv_entry ([.ref (ad a), .int p0, .int p1, .int p2]) (n := 5) (Nat.le_of_ble_eq_true rfl)
  rw [lg_entry_eq]
  generalize (lg_sl ([.ref (ad a), .int p0, .int p1, .int p2]) ++ List.replicate (5 - (lg_sl ([.ref (ad a), .int p0, .int p1, .int p2])).length) Slot.unset).toArray = ls at hl ⊢
  have hl : lv_has ls 5 [(0, .ref (ad a)), (1, .int p0), (2, .int p1), (3, .int p2)] := hl
  unfold FX7_shortByNumber at hF
  refine lv_iconst (v := (0 : Int32)) hx hb dX7_shortByNumber_0 (by decide) ?_
  refine lv_istore (lv' := [(4, .int (0 : Int32)), (0, .ref (ad a)), (1, .int p0), (2, .int p1), (3, .int p2)]) hx hb dX7_shortByNumber_1 hl (by decide) rfl (fun ls hl => ?_)
  obtain ⟨y1, hy1, hF⟩ := bnd_some hF
  have K1 : ∀ z1k : Int32 × DD, y1 = .inl z1k → ∀ (H : Heap) (locs : List Loc) (ls : Array Slot), va_P D classes (wld ct ad G z1k.2) H → va_D A (wld ct ad G z1k.2) → va_S A s.heap H locs → lv_has ls 5 [(4, .int z1k.1), (0, .ref (ad a)), (1, .int p0), (2, .int p1), (3, .int p2)] → W p l e (headSpec wsX7_shortByNumber ({ frames := 1, cells := 0, slots := 0, locals := 22 })).room s m ([.ref (ad a), .int p0, .int p1, .int p2] : List Value).toArray below meth c H locs 0 0 (MQ below (va_Qe ad (fun (q : Option Nat) (_ : Unit) => q = y.2) (fun _ t => kE D ct ad G A y.1 t) A) ([.ref (ad a), .int p0, .int p1, .int p2] : List Value).toArray s 0 0 A) (F0 m 56 ls []) := by
    intro z1k hz1 H locs ls hP hD hS hl
    have hF := sel_inl (hz1 ▸ hF)
    refine lv_nullq (ad := ad) hx hb dX7_shortByNumber_56 ?_
    obtain rfl := Option.some.inj hF
    exact W.aret (v := va_re ad none) hx hb hr (Or.inl ⟨_, rfl⟩) (va_re_or ad none) (fun t ht hW => ⟨⟨none, (), rfl, rfl, ⟨by rw [ht]; exact hP, va_K.moved hW.alike hK, hD⟩⟩, hS.F ht⟩) hS.2.2 dX7_shortByNumber_57
  have hR1 := hF
  clear hF
  refine itr_rule (fun (s2 : Int32 × DD) => ∀ (H : Heap) (locs : List Loc) (ls : Array Slot), va_P D classes (wld ct ad G s2.2) H → va_D A (wld ct ad G s2.2) → va_S A s.heap H locs → lv_has ls 5 [(4, .int s2.1), (0, .ref (ad a)), (1, .int p0), (2, .int p1), (3, .int p2)] → W p l e (headSpec wsX7_shortByNumber ({ frames := 1, cells := 0, slots := 0, locals := 22 })).room s m ([.ref (ad a), .int p0, .int p1, .int p2] : List Value).toArray below meth c H locs 0 0 (MQ below (va_Qe ad (fun (q : Option Nat) (_ : Unit) => q = y.2) (fun _ t => kE D ct ad G A y.1 t) A) ([.ref (ad a), .int p0, .int p1, .int p2] : List Value).toArray s 0 0 A) (F0 m 3 ls [])) ?_ _ _ hy1 _ _ _ hP hD hS (lv_sub hl [0, 1, 2, 3, 4] rfl)
  rintro s2 ⟨z4, hF, hwz4⟩ H locs ls hP hD hS hl
  try dsimp only at hF
  refine lv_iload hx hb dX7_shortByNumber_3 (lv_at hl 0 rfl) ?_
  refine lv_aload_n hx hb dX7_shortByNumber_5 rfl (lv_at hl 1 rfl) ?_
  refine va_get (D := D) (ci := 7) (v := .int (s2.2.1 a 3)) (C := RX7) (T := TX7) (N := 17) hx hb hts (by decide +kernel) hown hK hP a (wld_o ct ad G s2.2 hc hk (by decide)) rfl 3 (by decide) (hts (.fieldLink RX7 29 "VideoSuite$Store" "count" "I") (by decide +kernel)) (fun _ h9 => h9) rfl dX7_shortByNumber_6 ?_
  obtain ⟨x5, ex5, hF⟩ := ltt_some hF
  refine lv_topi (fun zx5 ezx5 => ?_)
  obtain rfl : x5 = zx5 := ex5.trans ezx5.symm
  refine lv_icmp_ge (tgt := 56) hx hb dX7_shortByNumber_9 (by decide) (fun c6 => ?_) (fun c6 => ?_)
  · rw [if_pos c6] at hF
    obtain rfl := Option.some.inj hF
    exact K1 _ hwz4.symm _ _ _ hP hD hS (lv_sub hl [0, 1, 2, 3, 4] rfl)
  · rw [if_neg c6] at hF
    refine lv_aload_n hx hb dX7_shortByNumber_12 rfl (lv_at hl 1 rfl) ?_
    refine va_get (D := D) (ci := 7) (v := va_re ad (s2.2.2 a 2)) (C := RX7) (T := TX7) (N := 17) hx hb hts (by decide +kernel) hown hK hP a (wld_o ct ad G s2.2 hc hk (by decide)) rfl 2 (by decide) (hts (.fieldLink RX7 17 "VideoSuite$Store" "kept" "[LVideoSuite$Picture;") (by decide +kernel)) (fun _ h9 => h9) rfl dX7_shortByNumber_13 ?_
    refine lv_iload hx hb dX7_shortByNumber_16 (lv_at hl 0 rfl) ?_
    obtain ⟨b7, ho7, hc7, hk7, hF⟩ := dr_some hF
    refine W_st (st' := [.int s2.1, .ref (ad b7)]) (by rw [va_some ho7]) ?_
    obtain ⟨hvc, hF⟩ := chk_some hF
    refine ld_q hx hb hK hP hc7 hk7 hvc dX7_shortByNumber_18 ?_
    obtain ⟨b8, ho8, hc8, hk8, hF⟩ := dr_some hF
    refine W_st (st' := [.ref (ad b8)]) (by rw [va_some ho8]) ?_
    refine va_get (D := D) (ci := 4) (v := .int (s2.2.1 b8 10)) (C := RX4) (T := TX4) (N := 18) hx hb hts (by decide +kernel) hown hK hP b8 (wld_o ct ad G s2.2 hc8 hk8 (by decide)) rfl 10 (by decide) (hts (.fieldLink RX7 123 "VideoSuite$Picture" "use" "I") (by decide +kernel)) (fun _ h9 => h9) rfl dX7_shortByNumber_19 ?_
    obtain ⟨x9, ex9, hF⟩ := ltt_some hF
    refine lv_topi (fun zx9 ezx9 => ?_)
    obtain rfl : x9 = zx9 := ex9.trans ezx9.symm
    refine lv_iconst (v := (1 : Int32)) hx hb dX7_shortByNumber_22 (by decide) ?_
    refine lv_icmp_ne (tgt := 50) hx hb dX7_shortByNumber_23 (by decide) (fun c10 => ?_) (fun c10 => ?_)
    · rw [if_neg c10] at hF
      obtain ⟨x11, ex11, hF⟩ := ltt_some hF
      refine lv_iinc (v := x11) (lv' := [(4, .int x11), (0, .ref (ad a)), (1, .int p0), (2, .int p1), (3, .int p2)]) hx hb dX7_shortByNumber_50 hl (k := 0) rfl (by rw [ex11]; rfl) (by decide) rfl (fun ls hl => ?_)
      refine lv_goto (tgt := 3) hx hb dX7_shortByNumber_53 (by decide) ?_
      obtain rfl := Option.some.inj hF
      exact hwz4 _ _ _ hP hD hS (lv_sub hl [0, 1, 2, 3, 4] rfl)
    · rw [if_pos c10] at hF
      refine lv_aload_n hx hb dX7_shortByNumber_26 rfl (lv_at hl 1 rfl) ?_
      refine va_get (D := D) (ci := 7) (v := va_re ad (s2.2.2 a 2)) (C := RX7) (T := TX7) (N := 17) hx hb hts (by decide +kernel) hown hK hP a (wld_o ct ad G s2.2 hc hk (by decide)) rfl 2 (by decide) (hts (.fieldLink RX7 17 "VideoSuite$Store" "kept" "[LVideoSuite$Picture;") (by decide +kernel)) (fun _ h9 => h9) rfl dX7_shortByNumber_27 ?_
      refine lv_iload hx hb dX7_shortByNumber_30 (lv_at hl 0 rfl) ?_
      refine W_st (st' := [.int s2.1, .ref (ad b7)]) (by rw [va_some ho7]) ?_
      obtain ⟨hvc, hF⟩ := chk_some hF
      refine ld_q hx hb hK hP hc7 hk7 hvc dX7_shortByNumber_32 ?_
      refine lv_iload_n hx hb dX7_shortByNumber_33 rfl (lv_at hl 2 rfl) ?_
      refine lv_iload_n hx hb dX7_shortByNumber_34 rfl (lv_at hl 4 rfl) ?_
      obtain ⟨y12, hy12, hF⟩ := bnd_some hF
      have hf9 := wA_in hD hA9 hS
      refine va_calli (va_runS (As := [va_re ad (s2.2.2 b7 s2.1.toNatClampNeg), .int p0, .int p2]) (rest := []) ⟨hx, hb, hml, hown, hts⟩ (kX7_frameNumber l D ct ad Z G s2.2 H.size ((s2.2.2 b7 s2.1.toNatClampNeg)) p0 p2 y12 hy12) (va_cwS 3 hts gX7_shortByNumber_X7_frameNumber rfl rfl rfl (by decide +kernel) ⟨Nat.le_of_ble_eq_true rfl, Nat.le_of_ble_eq_true rfl⟩) ⟨fun a U g mk q => by obtain ⟨q0, q1, qP, qK, qD, qZ, qN⟩ := q; exact ⟨q0, q1, qP, va_K.moved (u := U) (U := U.calling g mk a) (Vm.Alike.refl U.vm) qK, qD, sF.moved (u := U) (U := U.calling g mk a) (Vm.Alike.refl U.vm) qZ, nF.same rfl qN⟩, fun U hU hW => ⟨rfl, by rw [hU], by rw [hU]; exact hP, va_K.moved hW.alike hK, hD.weaken (fun _ _ _ _ => trivial), by rw [hU]; exact ((hZ.kept hS.2.1).narrow hf9).moved hW.alike, hN.warm hW⟩⟩ rfl rfl hl.1 rfl (lv_room (Nat.le_of_ble_eq_true rfl)) dX7_shortByNumber_35 ⟨(Nat.zero_le _), (Nat.zero_le _)⟩) hS (fun q _ h => hf9 q h) hf9 (fun r u t H locs ht hvm hw hB hz1 hk1 hS => ?_)
      obtain ⟨hP, hK9, hD9⟩ := hB
      rw [ht] at hP
      try dsimp only at hw
      subst hw
      have hD := hD9.weaken (fun _ q _ h => hf9 q.1 h)
      refine lv_iload_n hx hb dX7_shortByNumber_38 rfl (lv_at hl 3 rfl) ?_
      refine lv_icmp_ne (tgt := 50) hx hb dX7_shortByNumber_39 (by decide) (fun c13 => ?_) (fun c13 => ?_)
      · rw [if_neg c13] at hF
        obtain ⟨x14, ex14, hF⟩ := ltt_some hF
        refine lv_iinc (v := x14) (lv' := [(4, .int x14), (0, .ref (ad a)), (1, .int p0), (2, .int p1), (3, .int p2)]) hx hb dX7_shortByNumber_50 hl (k := 0) rfl (by rw [ex14]; rfl) (by decide) rfl (fun ls hl => ?_)
        refine lv_goto (tgt := 3) hx hb dX7_shortByNumber_53 (by decide) ?_
        obtain rfl := Option.some.inj hF
        exact hwz4 _ _ _ hP hD hS (lv_sub hl [0, 1, 2, 3, 4] rfl)
      · rw [if_pos c13] at hF
        refine lv_aload_n hx hb dX7_shortByNumber_42 rfl (lv_at hl 1 rfl) ?_
        refine va_get (D := D) (ci := 7) (v := va_re ad (y12.1.2 a 2)) (C := RX7) (T := TX7) (N := 17) hx hb hts (by decide +kernel) hown hK hP a (wld_o ct ad G y12.1 hc hk (by decide)) rfl 2 (by decide) (hts (.fieldLink RX7 17 "VideoSuite$Store" "kept" "[LVideoSuite$Picture;") (by decide +kernel)) (fun _ h9 => h9) rfl dX7_shortByNumber_43 ?_
        refine lv_iload hx hb dX7_shortByNumber_46 (lv_at hl 0 rfl) ?_
        obtain ⟨b15, ho15, hc15, hk15, hF⟩ := dr_some hF
        refine W_st (st' := [.int s2.1, .ref (ad b15)]) (by rw [va_some ho15]) ?_
        obtain ⟨hvc, hF⟩ := chk_some hF
        refine ld_q hx hb hK hP hc15 hk15 hvc dX7_shortByNumber_48 ?_
        obtain rfl := Option.some.inj hF
        have hF := sel_inr (hwz4 ▸ hR1)
        obtain rfl := Option.some.inj hF
        exact W.aret (v := va_re ad ((y12.1.2 b15 s2.1.toNatClampNeg))) hx hb hr (Or.inl ⟨_, rfl⟩) (va_re_or ad ((y12.1.2 b15 s2.1.toNatClampNeg))) (fun t ht hW => ⟨⟨((y12.1.2 b15 s2.1.toNatClampNeg)), (), rfl, rfl, ⟨by rw [ht]; exact hP, va_K.moved hW.alike hK, hD⟩⟩, hS.F ht⟩) hS.2.2 dX7_shortByNumber_49
theorem dX7_shorts_0 : decode cX7_shorts 0 = .ok (.iconst 0, 1) := by decide +kernel
theorem dX7_shorts_1 : decode cX7_shorts 1 = .ok (.istore_n 1, 1) := by decide +kernel
theorem dX7_shorts_2 : decode cX7_shorts 2 = .ok (.iconst 0, 1) := by decide +kernel
theorem dX7_shorts_3 : decode cX7_shorts 3 = .ok (.istore_n 2, 1) := by decide +kernel
theorem dX7_shorts_4 : decode cX7_shorts 4 = .ok (.iload_n 2, 1) := by decide +kernel
theorem dX7_shorts_5 : decode cX7_shorts 5 = .ok (.aload_n 0, 1) := by decide +kernel
theorem dX7_shorts_6 : decode cX7_shorts 6 = .ok (.getfield 29, 3) := by decide +kernel
theorem dX7_shorts_9 : decode cX7_shorts 9 = .ok (.if_icmp .ge 30, 3) := by decide +kernel
theorem dX7_shorts_12 : decode cX7_shorts 12 = .ok (.iload_n 1, 1) := by decide +kernel
theorem dX7_shorts_13 : decode cX7_shorts 13 = .ok (.aload_n 0, 1) := by decide +kernel
theorem dX7_shorts_14 : decode cX7_shorts 14 = .ok (.getfield 17, 3) := by decide +kernel
theorem dX7_shorts_17 : decode cX7_shorts 17 = .ok (.iload_n 2, 1) := by decide +kernel
theorem dX7_shorts_18 : decode cX7_shorts 18 = .ok (.aaload, 1) := by decide +kernel
theorem dX7_shorts_19 : decode cX7_shorts 19 = .ok (.getfield 123, 3) := by decide +kernel
theorem dX7_shorts_22 : decode cX7_shorts 22 = .ok (.iconst 1, 1) := by decide +kernel
theorem dX7_shorts_23 : decode cX7_shorts 23 = .ok (.if_icmp .ne 7, 3) := by decide +kernel
theorem dX7_shorts_26 : decode cX7_shorts 26 = .ok (.iconst 1, 1) := by decide +kernel
theorem dX7_shorts_27 : decode cX7_shorts 27 = .ok (.goto 4, 3) := by decide +kernel
theorem dX7_shorts_30 : decode cX7_shorts 30 = .ok (.iconst 0, 1) := by decide +kernel
theorem dX7_shorts_31 : decode cX7_shorts 31 = .ok (.iadd, 1) := by decide +kernel
theorem dX7_shorts_32 : decode cX7_shorts 32 = .ok (.istore_n 1, 1) := by decide +kernel
theorem dX7_shorts_33 : decode cX7_shorts 33 = .ok (.iinc 2 1, 3) := by decide +kernel
theorem dX7_shorts_36 : decode cX7_shorts 36 = .ok (.goto (-32), 3) := by decide +kernel
theorem dX7_shorts_39 : decode cX7_shorts 39 = .ok (.iload_n 1, 1) := by decide +kernel
theorem dX7_shorts_40 : decode cX7_shorts 40 = .ok (.ireturn, 1) := by decide +kernel
def FX7_shorts (G : GG) (M : DD) (a : Nat)  : Option (DD × Int32) :=
  bnd (itr (fun (s2 : Int32 × Int32) => ((ltt (M.1 a 3) fun x5 =>
  if x5 ≤ s2.2 then (some (.inr (s2.1, s2.2))) else
  (dr G 14 ((M.2 a 2)) fun b7 =>
  chk (¬ (s2.2 < 0 ∨ G.2.2 b7 ≤ s2.2.toNatClampNeg)) <|
  dr G 4 ((M.2 b7 s2.2.toNatClampNeg)) fun b8 =>
  ltt (M.1 b8 10) fun x9 =>
  bnd (if x9 = ((1 : Int32)) then (some ((1 : Int32))) else
  (some ((0 : Int32)))) fun (y10 : Int32) =>
  ltt ((s2.1 + y10)) fun x11 =>
  ltt (s2.2 + (1 : Int32)) fun x12 =>
  some (.inl (x11, x12)))) : Option ((Int32 × Int32) ⊕ (Int32 × Int32)))) 1000000 ((0 : Int32), (0 : Int32))) fun (y1 : Int32 × Int32) =>
  some (M, y1.1)
set_option maxHeartbeats 4000000 in
set_option maxRecDepth 100000 in
theorem kX7_shorts (l : Launch) (D : va_G) (ct : CT) (ad : Nat → Nat) (Z : Nat → Nat) (G : GG) (M : DD) (sz : Nat) (a : Nat)  (y : DD × Int32) (hc : a < G.1) (hk : G.2.1 a = 7) (hF : FX7_shorts G M a  = some y) : Met l yX7_shorts wsX7_shorts ({ frames := 0, cells := 0, slots := 0, locals := 0 }) (va_Pc [.ref (ad a)] (kB D ct ad Z G M sz)) (va_Qi (fun (q : Int32) (_ : Unit) => q = y.2) (fun _ t => kE D ct ad G (wA ad G sz) y.1 t) (wA ad G sz)) 0 0 (wA ad G sz) := by
  refine Met.ofW (cc := cX7_shorts) (maxL := 3) (ret := (some .int)) (by decide) rfl ?_
  intro p e s m args below meth c s₁ B hml hv
  obtain ⟨rfl, hsz, hP, hK, hD0, hZ, hN⟩ := hv
  have hx := B.exec
  have hb := B.bytes
  have hr := B.returns
  have hts := atoms_spec (ws := wsX7_shorts) B.pre
  have hown : s.vm.findClass RX7 = some m.cls := findClass_of_methodNamed B.named
  have hlocks := B.notSynchronized
  subst hsz
  have hD := wD_self (sz := s.heap.size) hD0
  have hA9 : ∀ q, s.heap.size ≤ q → wA ad G s.heap.size q := fun q h => Or.inr h
  generalize hAe : wA ad G s.heap.size = A at hD hA9 hZ ⊢
  have hS : va_S A s.heap s.heap [] := va_S.rf
  have hl := lv_entry ([.ref (ad a)]) (n := 3) (Nat.le_of_ble_eq_true rfl)
  rw [lg_entry_eq]
  generalize (lg_sl ([.ref (ad a)]) ++ List.replicate (3 - (lg_sl ([.ref (ad a)])).length) Slot.unset).toArray = ls at hl ⊢
  have hl : lv_has ls 3 [(0, .ref (ad a))] := hl
  unfold FX7_shorts at hF
  refine lv_iconst (v := (0 : Int32)) hx hb dX7_shorts_0 (by decide) ?_
  refine lv_istore_n (lv' := [(1, .int (0 : Int32)), (0, .ref (ad a))]) hx hb dX7_shorts_1 rfl hl (by decide) rfl (fun ls hl => ?_)
  refine lv_iconst (v := (0 : Int32)) hx hb dX7_shorts_2 (by decide) ?_
  refine lv_istore_n (lv' := [(2, .int (0 : Int32)), (1, .int (0 : Int32)), (0, .ref (ad a))]) hx hb dX7_shorts_3 rfl hl (by decide) rfl (fun ls hl => ?_)
  obtain ⟨y1, hy1, hF⟩ := bnd_some hF
  have K1 : ∀ (H : Heap) (locs : List Loc) (ls : Array Slot), va_P D classes (wld ct ad G M) H → va_D A (wld ct ad G M) → va_S A s.heap H locs → lv_has ls 3 [(2, .int y1.2), (1, .int y1.1), (0, .ref (ad a))] → W p l e (headSpec wsX7_shorts ({ frames := 0, cells := 0, slots := 0, locals := 0 })).room s m ([.ref (ad a)] : List Value).toArray below meth c H locs 0 0 (MQ below (va_Qi (fun (q : Int32) (_ : Unit) => q = y.2) (fun _ t => kE D ct ad G A y.1 t) A) ([.ref (ad a)] : List Value).toArray s 0 0 A) (F0 m 39 ls []) := by
    intro H locs ls hP hD hS hl
    refine lv_iload_n hx hb dX7_shorts_39 rfl (lv_at hl 1 rfl) ?_
    obtain rfl := Option.some.inj hF
    exact W.iret (v := y1.1) hx hb hr (fun t ht hW => ⟨⟨_, (), rfl, rfl, ⟨by rw [ht]; exact hP, va_K.moved hW.alike hK, hD⟩⟩, hS.F ht⟩) hS.2.2 dX7_shorts_40
  clear hF
  refine itr_rule (fun (s2 : Int32 × Int32) => ∀ (H : Heap) (locs : List Loc) (ls : Array Slot), va_P D classes (wld ct ad G M) H → va_D A (wld ct ad G M) → va_S A s.heap H locs → lv_has ls 3 [(2, .int s2.2), (1, .int s2.1), (0, .ref (ad a))] → W p l e (headSpec wsX7_shorts ({ frames := 0, cells := 0, slots := 0, locals := 0 })).room s m ([.ref (ad a)] : List Value).toArray below meth c H locs 0 0 (MQ below (va_Qi (fun (q : Int32) (_ : Unit) => q = y.2) (fun _ t => kE D ct ad G A y.1 t) A) ([.ref (ad a)] : List Value).toArray s 0 0 A) (F0 m 4 ls [])) ?_ _ _ hy1 _ _ _ hP hD hS (lv_sub hl [0, 1, 2] rfl)
  rintro s2 ⟨z4, hF, hwz4⟩ H locs ls hP hD hS hl
  try dsimp only at hF
  refine lv_iload_n hx hb dX7_shorts_4 rfl (lv_at hl 0 rfl) ?_
  refine lv_aload_n hx hb dX7_shorts_5 rfl (lv_at hl 2 rfl) ?_
  refine va_get (D := D) (ci := 7) (v := .int (M.1 a 3)) (C := RX7) (T := TX7) (N := 17) hx hb hts (by decide +kernel) hown hK hP a (wld_o ct ad G M hc hk (by decide)) rfl 3 (by decide) (hts (.fieldLink RX7 29 "VideoSuite$Store" "count" "I") (by decide +kernel)) (fun _ h9 => h9) rfl dX7_shorts_6 ?_
  obtain ⟨x5, ex5, hF⟩ := ltt_some hF
  refine lv_topi (fun zx5 ezx5 => ?_)
  obtain rfl : x5 = zx5 := ex5.trans ezx5.symm
  refine lv_icmp_ge (tgt := 39) hx hb dX7_shorts_9 (by decide) (fun c6 => ?_) (fun c6 => ?_)
  · rw [if_pos c6] at hF
    obtain rfl := Option.some.inj hF
    subst hwz4
    exact K1 _ _ _ hP hD hS (lv_sub hl [0, 1, 2] rfl)
  · rw [if_neg c6] at hF
    refine lv_iload_n hx hb dX7_shorts_12 rfl (lv_at hl 1 rfl) ?_
    refine lv_aload_n hx hb dX7_shorts_13 rfl (lv_at hl 2 rfl) ?_
    refine va_get (D := D) (ci := 7) (v := va_re ad (M.2 a 2)) (C := RX7) (T := TX7) (N := 17) hx hb hts (by decide +kernel) hown hK hP a (wld_o ct ad G M hc hk (by decide)) rfl 2 (by decide) (hts (.fieldLink RX7 17 "VideoSuite$Store" "kept" "[LVideoSuite$Picture;") (by decide +kernel)) (fun _ h9 => h9) rfl dX7_shorts_14 ?_
    refine lv_iload_n hx hb dX7_shorts_17 rfl (lv_at hl 0 rfl) ?_
    obtain ⟨b7, ho7, hc7, hk7, hF⟩ := dr_some hF
    refine W_st (st' := [.int s2.2, .ref (ad b7), .int s2.1]) (by rw [va_some ho7]) ?_
    obtain ⟨hvc, hF⟩ := chk_some hF
    refine ld_q hx hb hK hP hc7 hk7 hvc dX7_shorts_18 ?_
    obtain ⟨b8, ho8, hc8, hk8, hF⟩ := dr_some hF
    refine W_st (st' := [.ref (ad b8), .int s2.1]) (by rw [va_some ho8]) ?_
    refine va_get (D := D) (ci := 4) (v := .int (M.1 b8 10)) (C := RX4) (T := TX4) (N := 18) hx hb hts (by decide +kernel) hown hK hP b8 (wld_o ct ad G M hc8 hk8 (by decide)) rfl 10 (by decide) (hts (.fieldLink RX7 123 "VideoSuite$Picture" "use" "I") (by decide +kernel)) (fun _ h9 => h9) rfl dX7_shorts_19 ?_
    obtain ⟨x9, ex9, hF⟩ := ltt_some hF
    refine lv_topi (fun zx9 ezx9 => ?_)
    obtain rfl : x9 = zx9 := ex9.trans ezx9.symm
    refine lv_iconst (v := (1 : Int32)) hx hb dX7_shorts_22 (by decide) ?_
    obtain ⟨y10, hy10, hF⟩ := bnd_some hF
    have J10 : ∀ (H : Heap) (locs : List Loc) (ls : Array Slot), va_P D classes (wld ct ad G M) H → va_D A (wld ct ad G M) → va_S A s.heap H locs → lv_has ls 3 [(2, .int s2.2), (1, .int s2.1), (0, .ref (ad a))] → W p l e (headSpec wsX7_shorts ({ frames := 0, cells := 0, slots := 0, locals := 0 })).room s m ([.ref (ad a)] : List Value).toArray below meth c H locs 0 0 (MQ below (va_Qi (fun (q : Int32) (_ : Unit) => q = y.2) (fun _ t => kE D ct ad G A y.1 t) A) ([.ref (ad a)] : List Value).toArray s 0 0 A) (F0 m 31 ls [.int y10, .int s2.1]) := by
      intro H locs ls hP hD hS hl
      refine lv_iadd hx hb dX7_shorts_31 ?_
      obtain ⟨x11, ex11, hF⟩ := ltt_some hF
      refine lv_topi (fun zx11 ezx11 => ?_)
      obtain rfl : x11 = zx11 := ex11.trans ezx11.symm
      refine lv_istore_n (lv' := [(1, .int x11), (2, .int s2.2), (0, .ref (ad a))]) hx hb dX7_shorts_32 rfl hl (by decide) rfl (fun ls hl => ?_)
      obtain ⟨x12, ex12, hF⟩ := ltt_some hF
      refine lv_iinc (v := x12) (lv' := [(2, .int x12), (1, .int x11), (0, .ref (ad a))]) hx hb dX7_shorts_33 hl (k := 1) rfl (by rw [ex12]; rfl) (by decide) rfl (fun ls hl => ?_)
      refine lv_goto (tgt := 4) hx hb dX7_shorts_36 (by decide) ?_
      obtain rfl := Option.some.inj hF
      exact hwz4 _ _ _ hP hD hS (lv_sub hl [0, 1, 2] rfl)
    clear hF
    have hF := hy10
    clear hy10
    refine lv_icmp_ne (tgt := 30) hx hb dX7_shorts_23 (by decide) (fun c13 => ?_) (fun c13 => ?_)
    · rw [if_neg c13] at hF
      refine lv_iconst (v := (0 : Int32)) hx hb dX7_shorts_30 (by decide) ?_
      obtain rfl := Option.some.inj hF
      exact J10 _ _ _ hP hD hS (lv_sub hl [0, 1, 2] rfl)
    · rw [if_pos c13] at hF
      refine lv_iconst (v := (1 : Int32)) hx hb dX7_shorts_26 (by decide) ?_
      refine lv_goto (tgt := 31) hx hb dX7_shorts_27 (by decide) ?_
      obtain rfl := Option.some.inj hF
      exact J10 _ _ _ hP hD hS (lv_sub hl [0, 1, 2] rfl)
theorem ggX7_slide_X7_leastShort : GoodIn wsX7_slide wsX7_leastShort := goodIn_r _ [5, 6, 7, 8, 9, 10, 4, 11, 12, 21, 22, 23, 24, 25, 26, 27, 28, 29, 30, 31, 32, 33, 34, 35, 36, 37, 38, 39, 40, 41, 42, 43, 44, 45, 46, 47, 48, 49, 50, 51, 52, 53, 54, 55] (by decide +kernel) (by decide +kernel)
set_option maxRecDepth 20000 in
theorem gX7_slide_X7_leastShort : GoodIn wsX7_slide (wsV RX7 156 RX7 yX7_leastShort wsX7_leastShort) := goodIn_app (goodIn_of _ (by decide +kernel)) ggX7_slide_X7_leastShort
set_option maxRecDepth 20000 in
theorem ggX7_slide_X7_references : GoodIn wsX7_slide wsX7_references := goodIn_r _ [16, 6, 7, 8, 21, 22, 23, 24, 25, 26, 27, 28, 29, 30, 31, 32, 33, 34, 35, 36, 37, 38, 39, 40, 41, 42, 43, 44, 45, 46, 47, 48, 49, 50, 51, 52, 53, 54, 55] (by decide +kernel) (by decide +kernel)
set_option maxRecDepth 20000 in
theorem gX7_slide_X7_references : GoodIn wsX7_slide (wsV RX7 160 RX7 yX7_references wsX7_references) := goodIn_app (goodIn_of _ (by decide +kernel)) ggX7_slide_X7_references
set_option maxRecDepth 20000 in
theorem ggX7_slide_X7_release : GoodIn wsX7_slide wsX7_release := goodIn_r _ [19, 8, 20, 38, 39, 40, 41, 42, 43, 44, 45, 46, 47, 48, 49, 50, 51, 52, 53, 54, 55] (by decide +kernel) (by decide +kernel)
set_option maxRecDepth 20000 in
theorem gX7_slide_X7_release : GoodIn wsX7_slide (va_wsS RX7 152 yX7_release wsX7_release) := goodIn_app (goodIn_of _ (by decide +kernel)) ggX7_slide_X7_release
theorem dX7_slide_0 : decode cX7_slide 0 = .ok (.aload_n 0, 1) := by decide +kernel
theorem dX7_slide_1 : decode cX7_slide 1 = .ok (.iload_n 1, 1) := by decide +kernel
theorem dX7_slide_2 : decode cX7_slide 2 = .ok (.iload_n 2, 1) := by decide +kernel
theorem dX7_slide_3 : decode cX7_slide 3 = .ok (.invokevirtual 156, 3) := by decide +kernel
theorem dX7_slide_6 : decode cX7_slide 6 = .ok (.astore 4, 2) := by decide +kernel
theorem dX7_slide_8 : decode cX7_slide 8 = .ok (.aload_n 0, 1) := by decide +kernel
theorem dX7_slide_9 : decode cX7_slide 9 = .ok (.invokevirtual 160, 3) := by decide +kernel
theorem dX7_slide_12 : decode cX7_slide 12 = .ok (.iload_n 3, 1) := by decide +kernel
theorem dX7_slide_13 : decode cX7_slide 13 = .ok (.if_icmp .lt 13, 3) := by decide +kernel
theorem dX7_slide_16 : decode cX7_slide 16 = .ok (.aload 4, 2) := by decide +kernel
theorem dX7_slide_18 : decode cX7_slide 18 = .ok (.ifnull 8, 3) := by decide +kernel
theorem dX7_slide_21 : decode cX7_slide 21 = .ok (.aload 4, 2) := by decide +kernel
theorem dX7_slide_23 : decode cX7_slide 23 = .ok (.invokestatic 152, 3) := by decide +kernel
theorem dX7_slide_26 : decode cX7_slide 26 = .ok (.return_, 1) := by decide +kernel
def FX7_slide (G : GG) (M : DD) (a : Nat) (p0 : Int32) (p1 : Int32) (p2 : Int32) : Option (DD) :=
  bnd (FX7_leastShort G M a p0 p1) fun y1 =>
  bnd (FX7_references G y1.1 a) fun y2 =>
  bnd (if y2.2 < p2 then (some (y2.1)) else
  (bnd (if y1.2 = none then (some (y2.1)) else
  (bnd (FX7_release G y2.1 y1.2) fun y7 =>
  some (y7))) fun (y5 : DD) =>
  some (y5))) fun (y3 : DD) =>
  some y3
set_option maxHeartbeats 4000000 in
set_option maxRecDepth 100000 in
theorem kX7_slide (l : Launch) (D : va_G) (ct : CT) (ad : Nat → Nat) (Z : Nat → Nat) (G : GG) (M : DD) (sz : Nat) (a : Nat) (p0 : Int32) (p1 : Int32) (p2 : Int32) (y : DD) (hc : a < G.1) (hk : G.2.1 a = 7) (hF : FX7_slide G M a p0 p1 p2 = some y) : Met l yX7_slide wsX7_slide ({ frames := 2, cells := 0, slots := 0, locals := 47 }) (va_Pc [.ref (ad a), .int p0, .int p1, .int p2] (kB D ct ad Z G M sz)) (va_Qv (fun (_ : Unit) => True) (fun _ t => kE D ct ad G (wA ad G sz) y t) (wA ad G sz)) 0 0 (wA ad G sz) := by
  refine Met.ofW (cc := cX7_slide) (maxL := 5) (ret := none) (by decide) rfl ?_
  intro p e s m args below meth c s₁ B hml hv
  obtain ⟨rfl, hsz, hP, hK, hD0, hZ, hN⟩ := hv
  have hx := B.exec
  have hb := B.bytes
  have hr := B.returns
  have hts := atoms_spec (ws := wsX7_slide) B.pre
  have hown : s.vm.findClass RX7 = some m.cls := findClass_of_methodNamed B.named
  have hlocks := B.notSynchronized
  subst hsz
  have hD := wD_self (sz := s.heap.size) hD0
  have hA9 : ∀ q, s.heap.size ≤ q → wA ad G s.heap.size q := fun q h => Or.inr h
  generalize hAe : wA ad G s.heap.size = A at hD hA9 hZ ⊢
  have hS : va_S A s.heap s.heap [] := va_S.rf
  have hl := lv_entry ([.ref (ad a), .int p0, .int p1, .int p2]) (n := 5) (Nat.le_of_ble_eq_true rfl)
  rw [lg_entry_eq]
  generalize (lg_sl ([.ref (ad a), .int p0, .int p1, .int p2]) ++ List.replicate (5 - (lg_sl ([.ref (ad a), .int p0, .int p1, .int p2])).length) Slot.unset).toArray = ls at hl ⊢
  have hl : lv_has ls 5 [(0, .ref (ad a)), (1, .int p0), (2, .int p1), (3, .int p2)] := hl
  unfold FX7_slide at hF
  refine lv_aload_n hx hb dX7_slide_0 rfl (lv_at hl 0 rfl) ?_
  refine lv_iload_n hx hb dX7_slide_1 rfl (lv_at hl 1 rfl) ?_
  refine lv_iload_n hx hb dX7_slide_2 rfl (lv_at hl 2 rfl) ?_
  obtain ⟨y1, hy1, hF⟩ := bnd_some hF
  have hf9 := wA_in hD hA9 hS
  refine va_calle (va_runV (As := [.int p0, .int p1]) (rest := []) ⟨hx, hb, hml, hown, hts⟩ (kX7_leastShort l D ct ad Z G M s.heap.size a p0 p1 y1 hc hk hy1) (cwV 2 hts gX7_slide_X7_leastShort rfl rfl rfl (by decide +kernel) ⟨Nat.le_of_ble_eq_true rfl, Nat.le_of_ble_eq_true rfl⟩) ⟨fun a U g mk q => by obtain ⟨q0, q1, qP, qK, qD, qZ, qN⟩ := q; exact ⟨q0, q1, qP, va_K.moved (u := U) (U := U.calling g mk a) (Vm.Alike.refl U.vm) qK, qD, sF.moved (u := U) (U := U.calling g mk a) (Vm.Alike.refl U.vm) qZ, nF.same rfl qN⟩, va_recv hK hP (ci := 7) (q0 := a) rfl (wld_o ct ad G M hc hk (by decide)), fun U hU hW => ⟨rfl, by rw [hU], by rw [hU]; exact hP, va_K.moved hW.alike hK, hD.weaken (fun _ _ _ _ => trivial), by rw [hU]; exact ((hZ.kept hS.2.1).narrow hf9).moved hW.alike, hN.warm hW⟩⟩ rfl rfl hl.1 rfl (lv_room (Nat.le_of_ble_eq_true rfl)) dX7_slide_3 ⟨(Nat.zero_le _), (Nat.zero_le _)⟩) hS (fun q _ h => hf9 q h) hf9 (fun r u t H locs ht hvm hw hB hz1 hk1 hS => ?_)
  obtain ⟨hP, hK9, hD9⟩ := hB
  rw [ht] at hP
  try dsimp only at hw
  subst hw
  have hD := hD9.weaken (fun _ q _ h => hf9 q.1 h)
  refine lv_astoreq (lv' := [(4, va_re ad y1.2), (0, .ref (ad a)), (1, .int p0), (2, .int p1), (3, .int p2)]) hx hb dX7_slide_6 hl (by decide) rfl (fun ls hl => ?_)
  refine lv_aload_n hx hb dX7_slide_8 rfl (lv_at hl 1 rfl) ?_
  obtain ⟨y2, hy2, hF⟩ := bnd_some hF
  have hf9 := wA_in hD hA9 hS
  refine va_calli (va_runV (As := []) (rest := []) ⟨hx, hb, hml, hown, hts⟩ (kX7_references l D ct ad Z G y1.1 H.size a y2 hc hk hy2) (cwV 0 hts gX7_slide_X7_references rfl rfl rfl (by decide +kernel) ⟨Nat.le_of_ble_eq_true rfl, Nat.le_of_ble_eq_true rfl⟩) ⟨fun a U g mk q => by obtain ⟨q0, q1, qP, qK, qD, qZ, qN⟩ := q; exact ⟨q0, q1, qP, va_K.moved (u := U) (U := U.calling g mk a) (Vm.Alike.refl U.vm) qK, qD, sF.moved (u := U) (U := U.calling g mk a) (Vm.Alike.refl U.vm) qZ, nF.same rfl qN⟩, va_recv hK hP (ci := 7) (q0 := a) rfl (wld_o ct ad G y1.1 hc hk (by decide)), fun U hU hW => ⟨rfl, by rw [hU], by rw [hU]; exact hP, va_K.moved hW.alike hK, hD.weaken (fun _ _ _ _ => trivial), by rw [hU]; exact ((hZ.kept hS.2.1).narrow hf9).moved hW.alike, hN.warm hW⟩⟩ rfl rfl hl.1 rfl (lv_room (Nat.le_of_ble_eq_true rfl)) dX7_slide_9 ⟨(Nat.zero_le _), (Nat.zero_le _)⟩) hS (fun q _ h => hf9 q h) hf9 (fun r u t H locs ht hvm hw hB hz1 hk1 hS => ?_)
  obtain ⟨hP, hK9, hD9⟩ := hB
  rw [ht] at hP
  try dsimp only at hw
  subst hw
  have hD := hD9.weaken (fun _ q _ h => hf9 q.1 h)
  refine lv_iload_n hx hb dX7_slide_12 rfl (lv_at hl 4 rfl) ?_
  obtain ⟨y3, hy3, hF⟩ := bnd_some hF
  have J3 : ∀ (H : Heap) (locs : List Loc) (ls : Array Slot), va_P D classes (wld ct ad G y3) H → va_D A (wld ct ad G y3) → va_S A s.heap H locs → lv_has ls 5 [(4, va_re ad y1.2), (0, .ref (ad a)), (1, .int p0), (2, .int p1), (3, .int p2)] → W p l e (headSpec wsX7_slide ({ frames := 2, cells := 0, slots := 0, locals := 47 })).room s m ([.ref (ad a), .int p0, .int p1, .int p2] : List Value).toArray below meth c H locs 0 0 (MQ below (va_Qv (fun (_ : Unit) => True) (fun _ t => kE D ct ad G A y t) A) ([.ref (ad a), .int p0, .int p1, .int p2] : List Value).toArray s 0 0 A) (F0 m 26 ls []) := by
    intro H locs ls hP hD hS hl
    obtain rfl := Option.some.inj hF
    exact W.vret hx hb hr (fun t ht hW => ⟨⟨(), rfl, trivial, ⟨by rw [ht]; exact hP, va_K.moved hW.alike hK, hD⟩⟩, hS.F ht⟩) hS.2.2 dX7_slide_26
  clear hF
  have hF := hy3
  clear hy3
  refine lv_icmp_lt (tgt := 26) hx hb dX7_slide_13 (by decide) (fun c4 => ?_) (fun c4 => ?_)
  · rw [if_pos c4] at hF
    obtain rfl := Option.some.inj hF
    exact J3 _ _ _ hP hD hS (lv_sub hl [0, 1, 2, 3, 4] rfl)
  · rw [if_neg c4] at hF
    refine lv_aloadq hx hb dX7_slide_16 (lv_at hl 0 rfl) ?_
    obtain ⟨y5, hy5, hF⟩ := bnd_some hF
    have J5 : ∀ (H : Heap) (locs : List Loc) (ls : Array Slot), va_P D classes (wld ct ad G y5) H → va_D A (wld ct ad G y5) → va_S A s.heap H locs → lv_has ls 5 [(4, va_re ad y1.2), (0, .ref (ad a)), (1, .int p0), (2, .int p1), (3, .int p2)] → W p l e (headSpec wsX7_slide ({ frames := 2, cells := 0, slots := 0, locals := 47 })).room s m ([.ref (ad a), .int p0, .int p1, .int p2] : List Value).toArray below meth c H locs 0 0 (MQ below (va_Qv (fun (_ : Unit) => True) (fun _ t => kE D ct ad G A y t) A) ([.ref (ad a), .int p0, .int p1, .int p2] : List Value).toArray s 0 0 A) (F0 m 26 ls []) := by
      intro H locs ls hP hD hS hl
      obtain rfl := Option.some.inj hF
      exact J3 _ _ _ hP hD hS (lv_sub hl [0, 1, 2, 3, 4] rfl)
    clear hF
    have hF := hy5
    clear hy5
    refine lv_ifnullq (tgt := 26) hx hb dX7_slide_18 (by decide) (fun c6 => ?_) (fun c6 => ?_)
    · rw [if_pos c6] at hF
      obtain rfl := Option.some.inj hF
      exact J5 _ _ _ hP hD hS (lv_sub hl [0, 1, 2, 3, 4] rfl)
    · rw [if_neg c6] at hF
      refine lv_aloadq hx hb dX7_slide_21 (lv_at hl 0 rfl) ?_
      obtain ⟨y7, hy7, hF⟩ := bnd_some hF
      have hf9 := wA_in hD hA9 hS
      refine va_callv (va_runS (As := [va_re ad y1.2]) (rest := []) ⟨hx, hb, hml, hown, hts⟩ (kX7_release l D ct ad Z G y2.1 H.size y1.2 y7 hy7) (va_cwS 1 hts gX7_slide_X7_release rfl rfl rfl (by decide +kernel) ⟨Nat.le_of_ble_eq_true rfl, Nat.le_of_ble_eq_true rfl⟩) ⟨fun a U g mk q => by obtain ⟨q0, q1, qP, qK, qD, qZ, qN⟩ := q; exact ⟨q0, q1, qP, va_K.moved (u := U) (U := U.calling g mk a) (Vm.Alike.refl U.vm) qK, qD, sF.moved (u := U) (U := U.calling g mk a) (Vm.Alike.refl U.vm) qZ, nF.same rfl qN⟩, fun U hU hW => ⟨rfl, by rw [hU], by rw [hU]; exact hP, va_K.moved hW.alike hK, hD.weaken (fun _ _ _ _ => trivial), by rw [hU]; exact ((hZ.kept hS.2.1).narrow hf9).moved hW.alike, hN.warm hW⟩⟩ rfl rfl hl.1 rfl (lv_room (Nat.le_of_ble_eq_true rfl)) dX7_slide_23 ⟨(Nat.zero_le _), (Nat.zero_le _)⟩) hS (fun q _ h => hf9 q h) hf9 (fun u t H locs ht hvm hw hB hz1 hk1 hS => ?_)
      obtain ⟨hP, hK9, hD9⟩ := hB
      rw [ht] at hP
      have hD := hD9.weaken (fun _ q _ h => hf9 q.1 h)
      obtain rfl := Option.some.inj hF
      exact J5 _ _ _ hP hD hS (lv_sub hl [0, 1, 2, 3, 4] rfl)
theorem dX7_sweep_0 : decode cX7_sweep 0 = .ok (.iconst 0, 1) := by decide +kernel
theorem dX7_sweep_1 : decode cX7_sweep 1 = .ok (.istore_n 1, 1) := by decide +kernel
theorem dX7_sweep_2 : decode cX7_sweep 2 = .ok (.iconst 0, 1) := by decide +kernel
theorem dX7_sweep_3 : decode cX7_sweep 3 = .ok (.istore_n 2, 1) := by decide +kernel
theorem dX7_sweep_4 : decode cX7_sweep 4 = .ok (.iload_n 2, 1) := by decide +kernel
theorem dX7_sweep_5 : decode cX7_sweep 5 = .ok (.aload_n 0, 1) := by decide +kernel
theorem dX7_sweep_6 : decode cX7_sweep 6 = .ok (.getfield 29, 3) := by decide +kernel
theorem dX7_sweep_9 : decode cX7_sweep 9 = .ok (.if_icmp .ge 40, 3) := by decide +kernel
theorem dX7_sweep_12 : decode cX7_sweep 12 = .ok (.aload_n 0, 1) := by decide +kernel
theorem dX7_sweep_13 : decode cX7_sweep 13 = .ok (.getfield 17, 3) := by decide +kernel
theorem dX7_sweep_16 : decode cX7_sweep 16 = .ok (.iload_n 2, 1) := by decide +kernel
theorem dX7_sweep_17 : decode cX7_sweep 17 = .ok (.aaload, 1) := by decide +kernel
theorem dX7_sweep_18 : decode cX7_sweep 18 = .ok (.astore_n 3, 1) := by decide +kernel
theorem dX7_sweep_19 : decode cX7_sweep 19 = .ok (.aload_n 3, 1) := by decide +kernel
theorem dX7_sweep_20 : decode cX7_sweep 20 = .ok (.getfield 123, 3) := by decide +kernel
theorem dX7_sweep_23 : decode cX7_sweep 23 = .ok (.ifCond .ne 10, 3) := by decide +kernel
theorem dX7_sweep_26 : decode cX7_sweep 26 = .ok (.aload_n 3, 1) := by decide +kernel
theorem dX7_sweep_27 : decode cX7_sweep 27 = .ok (.getfield 164, 3) := by decide +kernel
theorem dX7_sweep_30 : decode cX7_sweep 30 = .ok (.ifCond .eq 13, 3) := by decide +kernel
theorem dX7_sweep_33 : decode cX7_sweep 33 = .ok (.aload_n 0, 1) := by decide +kernel
theorem dX7_sweep_34 : decode cX7_sweep 34 = .ok (.getfield 17, 3) := by decide +kernel
theorem dX7_sweep_37 : decode cX7_sweep 37 = .ok (.iload_n 1, 1) := by decide +kernel
theorem dX7_sweep_38 : decode cX7_sweep 38 = .ok (.aload_n 3, 1) := by decide +kernel
theorem dX7_sweep_39 : decode cX7_sweep 39 = .ok (.aastore, 1) := by decide +kernel
theorem dX7_sweep_40 : decode cX7_sweep 40 = .ok (.iinc 1 1, 3) := by decide +kernel
theorem dX7_sweep_43 : decode cX7_sweep 43 = .ok (.iinc 2 1, 3) := by decide +kernel
theorem dX7_sweep_46 : decode cX7_sweep 46 = .ok (.goto (-42), 3) := by decide +kernel
theorem dX7_sweep_49 : decode cX7_sweep 49 = .ok (.iload_n 1, 1) := by decide +kernel
theorem dX7_sweep_50 : decode cX7_sweep 50 = .ok (.istore_n 2, 1) := by decide +kernel
theorem dX7_sweep_51 : decode cX7_sweep 51 = .ok (.iload_n 2, 1) := by decide +kernel
theorem dX7_sweep_52 : decode cX7_sweep 52 = .ok (.aload_n 0, 1) := by decide +kernel
theorem dX7_sweep_53 : decode cX7_sweep 53 = .ok (.getfield 29, 3) := by decide +kernel
theorem dX7_sweep_56 : decode cX7_sweep 56 = .ok (.if_icmp .ge 16, 3) := by decide +kernel
theorem dX7_sweep_59 : decode cX7_sweep 59 = .ok (.aload_n 0, 1) := by decide +kernel
theorem dX7_sweep_60 : decode cX7_sweep 60 = .ok (.getfield 17, 3) := by decide +kernel
theorem dX7_sweep_63 : decode cX7_sweep 63 = .ok (.iload_n 2, 1) := by decide +kernel
theorem dX7_sweep_64 : decode cX7_sweep 64 = .ok (.aconst_null, 1) := by decide +kernel
theorem dX7_sweep_65 : decode cX7_sweep 65 = .ok (.aastore, 1) := by decide +kernel
theorem dX7_sweep_66 : decode cX7_sweep 66 = .ok (.iinc 2 1, 3) := by decide +kernel
theorem dX7_sweep_69 : decode cX7_sweep 69 = .ok (.goto (-18), 3) := by decide +kernel
theorem dX7_sweep_72 : decode cX7_sweep 72 = .ok (.aload_n 0, 1) := by decide +kernel
theorem dX7_sweep_73 : decode cX7_sweep 73 = .ok (.iload_n 1, 1) := by decide +kernel
theorem dX7_sweep_74 : decode cX7_sweep 74 = .ok (.putfield 29, 3) := by decide +kernel
theorem dX7_sweep_77 : decode cX7_sweep 77 = .ok (.return_, 1) := by decide +kernel
def FX7_sweep (G : GG) (M : DD) (a : Nat)  : Option (DD) :=
  bnd (itr (fun (s2 : Int32 × Int32 × DD) => ((ltt (s2.2.2.1 a 3) fun x15 =>
  if x15 ≤ s2.2.1 then (some (.inr (s2.1, s2.2.1, s2.2.2))) else
  (dr G 14 ((s2.2.2.2 a 2)) fun b17 =>
  chk (¬ (s2.2.1 < 0 ∨ G.2.2 b17 ≤ s2.2.1.toNatClampNeg)) <|
  dr G 4 ((s2.2.2.2 b17 s2.2.1.toNatClampNeg)) fun b18 =>
  ltt (s2.2.2.1 b18 10) fun x19 =>
  bnd (if x19 = ((0 : Int32)) then (ltt (s2.2.2.1 b18 12) fun x25 =>
  bnd (if x25 = ((0 : Int32)) then (some (s2.1, s2.2.2)) else
  (chk (¬ (s2.1 < 0 ∨ G.2.2 b17 ≤ s2.1.toNatClampNeg)) <|
  chk (okr G 4 ((s2.2.2.2 b17 s2.2.1.toNatClampNeg)) = true) <|
  ltt (uP s2.2.2 b17 s2.1.toNatClampNeg ((s2.2.2.2 b17 s2.2.1.toNatClampNeg))) fun M28 =>
  ltt (s2.1 + (1 : Int32)) fun x29 =>
  some (x29, M28))) fun (y26 : Int32 × DD) =>
  some (y26.1, y26.2)) else
  (chk (¬ (s2.1 < 0 ∨ G.2.2 b17 ≤ s2.1.toNatClampNeg)) <|
  chk (okr G 4 ((s2.2.2.2 b17 s2.2.1.toNatClampNeg)) = true) <|
  ltt (uP s2.2.2 b17 s2.1.toNatClampNeg ((s2.2.2.2 b17 s2.2.1.toNatClampNeg))) fun M23 =>
  ltt (s2.1 + (1 : Int32)) fun x24 =>
  some (x24, M23))) fun (y20 : Int32 × DD) =>
  ltt (s2.2.1 + (1 : Int32)) fun x21 =>
  some (.inl (y20.1, x21, y20.2)))) : Option ((Int32 × Int32 × DD) ⊕ (Int32 × Int32 × DD)))) 1000000 ((0 : Int32), (0 : Int32), M)) fun (y1 : Int32 × Int32 × DD) =>
  bnd (itr (fun (s5 : Int32 × DD) => ((ltt (s5.2.1 a 3) fun x9 =>
  if x9 ≤ s5.1 then (some (.inr (s5.1, s5.2))) else
  (dr G 14 ((s5.2.2 a 2)) fun b11 =>
  chk (¬ (s5.1 < 0 ∨ G.2.2 b11 ≤ s5.1.toNatClampNeg)) <|
  chk (okr G 4 none = true) <|
  ltt (uP s5.2 b11 s5.1.toNatClampNeg none) fun M12 =>
  ltt (s5.1 + (1 : Int32)) fun x13 =>
  some (.inl (x13, M12)))) : Option ((Int32 × DD) ⊕ (Int32 × DD)))) 1000000 (y1.1, y1.2.2)) fun (y4 : Int32 × DD) =>
  ltt (uI y4.2 a 3 y1.1) fun M7 =>
  some M7
set_option maxHeartbeats 4000000 in
set_option maxRecDepth 100000 in
theorem kX7_sweep (l : Launch) (D : va_G) (ct : CT) (ad : Nat → Nat) (Z : Nat → Nat) (G : GG) (M : DD) (sz : Nat) (a : Nat)  (y : DD) (hc : a < G.1) (hk : G.2.1 a = 7) (hF : FX7_sweep G M a  = some y) : Met l yX7_sweep wsX7_sweep ({ frames := 0, cells := 0, slots := 0, locals := 0 }) (va_Pc [.ref (ad a)] (kB D ct ad Z G M sz)) (va_Qv (fun (_ : Unit) => True) (fun _ t => kE D ct ad G (wA ad G sz) y t) (wA ad G sz)) 0 0 (wA ad G sz) := by
  refine Met.ofW (cc := cX7_sweep) (maxL := 4) (ret := none) (by decide) rfl ?_
  intro p e s m args below meth c s₁ B hml hv
  obtain ⟨rfl, hsz, hP, hK, hD0, hZ, hN⟩ := hv
  have hx := B.exec
  have hb := B.bytes
  have hr := B.returns
  have hts := atoms_spec (ws := wsX7_sweep) B.pre
  have hown : s.vm.findClass RX7 = some m.cls := findClass_of_methodNamed B.named
  have hlocks := B.notSynchronized
  subst hsz
  have hD := wD_self (sz := s.heap.size) hD0
  have hA9 : ∀ q, s.heap.size ≤ q → wA ad G s.heap.size q := fun q h => Or.inr h
  generalize hAe : wA ad G s.heap.size = A at hD hA9 hZ ⊢
  have hS : va_S A s.heap s.heap [] := va_S.rf
  have hl := lv_entry ([.ref (ad a)]) (n := 4) (Nat.le_of_ble_eq_true rfl)
  rw [lg_entry_eq]
  generalize (lg_sl ([.ref (ad a)]) ++ List.replicate (4 - (lg_sl ([.ref (ad a)])).length) Slot.unset).toArray = ls at hl ⊢
  have hl : lv_has ls 4 [(0, .ref (ad a))] := hl
  unfold FX7_sweep at hF
  refine lv_iconst (v := (0 : Int32)) hx hb dX7_sweep_0 (by decide) ?_
  refine lv_istore_n (lv' := [(1, .int (0 : Int32)), (0, .ref (ad a))]) hx hb dX7_sweep_1 rfl hl (by decide) rfl (fun ls hl => ?_)
  refine lv_iconst (v := (0 : Int32)) hx hb dX7_sweep_2 (by decide) ?_
  refine lv_istore_n (lv' := [(2, .int (0 : Int32)), (1, .int (0 : Int32)), (0, .ref (ad a))]) hx hb dX7_sweep_3 rfl hl (by decide) rfl (fun ls hl => ?_)
  obtain ⟨y1, hy1, hF⟩ := bnd_some hF
  have K1 : ∀ (H : Heap) (locs : List Loc) (ls : Array Slot), va_P D classes (wld ct ad G y1.2.2) H → va_D A (wld ct ad G y1.2.2) → va_S A s.heap H locs → lv_has ls 4 [(2, .int y1.2.1), (1, .int y1.1), (0, .ref (ad a))] → W p l e (headSpec wsX7_sweep ({ frames := 0, cells := 0, slots := 0, locals := 0 })).room s m ([.ref (ad a)] : List Value).toArray below meth c H locs 0 0 (MQ below (va_Qv (fun (_ : Unit) => True) (fun _ t => kE D ct ad G A y t) A) ([.ref (ad a)] : List Value).toArray s 0 0 A) (F0 m 49 ls []) := by
    intro H locs ls hP hD hS hl
    refine lv_iload_n hx hb dX7_sweep_49 rfl (lv_at hl 1 rfl) ?_
    refine lv_istore_n (lv' := [(2, .int y1.1), (1, .int y1.1), (0, .ref (ad a))]) hx hb dX7_sweep_50 rfl hl (by decide) rfl (fun ls hl => ?_)
    obtain ⟨y4, hy4, hF⟩ := bnd_some hF
    have K4 : ∀ (H : Heap) (locs : List Loc) (ls : Array Slot), va_P D classes (wld ct ad G y4.2) H → va_D A (wld ct ad G y4.2) → va_S A s.heap H locs → lv_has ls 4 [(2, .int y4.1), (1, .int y1.1), (0, .ref (ad a))] → W p l e (headSpec wsX7_sweep ({ frames := 0, cells := 0, slots := 0, locals := 0 })).room s m ([.ref (ad a)] : List Value).toArray below meth c H locs 0 0 (MQ below (va_Qv (fun (_ : Unit) => True) (fun _ t => kE D ct ad G A y t) A) ([.ref (ad a)] : List Value).toArray s 0 0 A) (F0 m 72 ls []) := by
      intro H locs ls hP hD hS hl
      refine lv_aload_n hx hb dX7_sweep_72 rfl (lv_at hl 2 rfl) ?_
      refine lv_iload_n hx hb dX7_sweep_73 rfl (lv_at hl 1 rfl) ?_
      refine va_put (D := D) (ci := 7) (v := .int y1.1) (ty := .int) (C := RX7) (T := TX7) (N := 17) hx hb hts (by decide +kernel) tyX7 tyX7_ok nmX7 hown hK hP hD hS a (wld_o ct ad G y4.2 hc hk (by decide)) rfl 3 (by decide) (hts (.fieldLink RX7 29 "VideoSuite$Store" "count" "I") (by decide +kernel)) (fun _ h9 => h9) rfl (by decide +kernel) rfl rfl (Nat.le_of_ble_eq_true rfl) dX7_sweep_74 (fun H locs hP hD hS => ?_)
      obtain ⟨M7, eM7, hF⟩ := ltt_some hF
      rw [set_oI ct ad G y4.2 hc hk (by decide) (by rfl), ← eM7] at hP hD
      obtain rfl := Option.some.inj hF
      exact W.vret hx hb hr (fun t ht hW => ⟨⟨(), rfl, trivial, ⟨by rw [ht]; exact hP, va_K.moved hW.alike hK, hD⟩⟩, hS.F ht⟩) hS.2.2 dX7_sweep_77
    clear hF
    refine itr_rule (fun (s5 : Int32 × DD) => ∀ (H : Heap) (locs : List Loc) (ls : Array Slot), va_P D classes (wld ct ad G s5.2) H → va_D A (wld ct ad G s5.2) → va_S A s.heap H locs → lv_has ls 4 [(2, .int s5.1), (1, .int y1.1), (0, .ref (ad a))] → W p l e (headSpec wsX7_sweep ({ frames := 0, cells := 0, slots := 0, locals := 0 })).room s m ([.ref (ad a)] : List Value).toArray below meth c H locs 0 0 (MQ below (va_Qv (fun (_ : Unit) => True) (fun _ t => kE D ct ad G A y t) A) ([.ref (ad a)] : List Value).toArray s 0 0 A) (F0 m 51 ls [])) ?_ _ _ hy4 _ _ _ hP hD hS (lv_sub hl [0, 1, 2] rfl)
    rintro s5 ⟨z8, hF, hwz8⟩ H locs ls hP hD hS hl
    try dsimp only at hF
    refine lv_iload_n hx hb dX7_sweep_51 rfl (lv_at hl 0 rfl) ?_
    refine lv_aload_n hx hb dX7_sweep_52 rfl (lv_at hl 2 rfl) ?_
    refine va_get (D := D) (ci := 7) (v := .int (s5.2.1 a 3)) (C := RX7) (T := TX7) (N := 17) hx hb hts (by decide +kernel) hown hK hP a (wld_o ct ad G s5.2 hc hk (by decide)) rfl 3 (by decide) (hts (.fieldLink RX7 29 "VideoSuite$Store" "count" "I") (by decide +kernel)) (fun _ h9 => h9) rfl dX7_sweep_53 ?_
    obtain ⟨x9, ex9, hF⟩ := ltt_some hF
    refine lv_topi (fun zx9 ezx9 => ?_)
    obtain rfl : x9 = zx9 := ex9.trans ezx9.symm
    refine lv_icmp_ge (tgt := 72) hx hb dX7_sweep_56 (by decide) (fun c10 => ?_) (fun c10 => ?_)
    · rw [if_pos c10] at hF
      obtain rfl := Option.some.inj hF
      subst hwz8
      exact K4 _ _ _ hP hD hS (lv_sub hl [0, 1, 2] rfl)
    · rw [if_neg c10] at hF
      refine lv_aload_n hx hb dX7_sweep_59 rfl (lv_at hl 2 rfl) ?_
      refine va_get (D := D) (ci := 7) (v := va_re ad (s5.2.2 a 2)) (C := RX7) (T := TX7) (N := 17) hx hb hts (by decide +kernel) hown hK hP a (wld_o ct ad G s5.2 hc hk (by decide)) rfl 2 (by decide) (hts (.fieldLink RX7 17 "VideoSuite$Store" "kept" "[LVideoSuite$Picture;") (by decide +kernel)) (fun _ h9 => h9) rfl dX7_sweep_60 ?_
      refine lv_iload_n hx hb dX7_sweep_63 rfl (lv_at hl 0 rfl) ?_
      refine lv_nullq (ad := ad) hx hb dX7_sweep_64 ?_
      obtain ⟨b11, ho11, hc11, hk11, hF⟩ := dr_some hF
      refine W_st (st' := [va_re ad none, .int s5.1, .ref (ad b11)]) (by rw [va_some ho11]) ?_
      obtain ⟨hvc, hF⟩ := chk_some hF
      obtain ⟨ho9, hF⟩ := chk_some hF
      refine st_q (o := none) hx hb hK hP hD hS hc11 hk11 ho9 hvc dX7_sweep_65 (fun H locs hP hD hS => ?_)
      obtain ⟨M12, eM12, hF⟩ := ltt_some hF
      rw [← eM12] at hP hD
      obtain ⟨x13, ex13, hF⟩ := ltt_some hF
      refine lv_iinc (v := x13) (lv' := [(2, .int x13), (1, .int y1.1), (0, .ref (ad a))]) hx hb dX7_sweep_66 hl (k := 0) rfl (by rw [ex13]; rfl) (by decide) rfl (fun ls hl => ?_)
      refine lv_goto (tgt := 51) hx hb dX7_sweep_69 (by decide) ?_
      obtain rfl := Option.some.inj hF
      exact hwz8 _ _ _ hP hD hS (lv_sub hl [0, 1, 2] rfl)
  clear hF
  refine itr_rule (fun (s2 : Int32 × Int32 × DD) => ∀ (H : Heap) (locs : List Loc) (ls : Array Slot), va_P D classes (wld ct ad G s2.2.2) H → va_D A (wld ct ad G s2.2.2) → va_S A s.heap H locs → lv_has ls 4 [(2, .int s2.2.1), (1, .int s2.1), (0, .ref (ad a))] → W p l e (headSpec wsX7_sweep ({ frames := 0, cells := 0, slots := 0, locals := 0 })).room s m ([.ref (ad a)] : List Value).toArray below meth c H locs 0 0 (MQ below (va_Qv (fun (_ : Unit) => True) (fun _ t => kE D ct ad G A y t) A) ([.ref (ad a)] : List Value).toArray s 0 0 A) (F0 m 4 ls [])) ?_ _ _ hy1 _ _ _ hP hD hS (lv_sub hl [0, 1, 2] rfl)
  rintro s2 ⟨z14, hF, hwz14⟩ H locs ls hP hD hS hl
  try dsimp only at hF
  refine lv_iload_n hx hb dX7_sweep_4 rfl (lv_at hl 0 rfl) ?_
  refine lv_aload_n hx hb dX7_sweep_5 rfl (lv_at hl 2 rfl) ?_
  refine va_get (D := D) (ci := 7) (v := .int (s2.2.2.1 a 3)) (C := RX7) (T := TX7) (N := 17) hx hb hts (by decide +kernel) hown hK hP a (wld_o ct ad G s2.2.2 hc hk (by decide)) rfl 3 (by decide) (hts (.fieldLink RX7 29 "VideoSuite$Store" "count" "I") (by decide +kernel)) (fun _ h9 => h9) rfl dX7_sweep_6 ?_
  obtain ⟨x15, ex15, hF⟩ := ltt_some hF
  refine lv_topi (fun zx15 ezx15 => ?_)
  obtain rfl : x15 = zx15 := ex15.trans ezx15.symm
  refine lv_icmp_ge (tgt := 49) hx hb dX7_sweep_9 (by decide) (fun c16 => ?_) (fun c16 => ?_)
  · rw [if_pos c16] at hF
    obtain rfl := Option.some.inj hF
    subst hwz14
    exact K1 _ _ _ hP hD hS (lv_sub hl [0, 1, 2] rfl)
  · rw [if_neg c16] at hF
    refine lv_aload_n hx hb dX7_sweep_12 rfl (lv_at hl 2 rfl) ?_
    refine va_get (D := D) (ci := 7) (v := va_re ad (s2.2.2.2 a 2)) (C := RX7) (T := TX7) (N := 17) hx hb hts (by decide +kernel) hown hK hP a (wld_o ct ad G s2.2.2 hc hk (by decide)) rfl 2 (by decide) (hts (.fieldLink RX7 17 "VideoSuite$Store" "kept" "[LVideoSuite$Picture;") (by decide +kernel)) (fun _ h9 => h9) rfl dX7_sweep_13 ?_
    refine lv_iload_n hx hb dX7_sweep_16 rfl (lv_at hl 0 rfl) ?_
    obtain ⟨b17, ho17, hc17, hk17, hF⟩ := dr_some hF
    refine W_st (st' := [.int s2.2.1, .ref (ad b17)]) (by rw [va_some ho17]) ?_
    obtain ⟨hvc, hF⟩ := chk_some hF
    refine ld_q hx hb hK hP hc17 hk17 hvc dX7_sweep_17 ?_
    refine lv_astoreq_n (lv' := [(3, va_re ad (s2.2.2.2 b17 s2.2.1.toNatClampNeg)), (2, .int s2.2.1), (1, .int s2.1), (0, .ref (ad a))]) hx hb dX7_sweep_18 rfl hl (by decide) rfl (fun ls hl => ?_)
    refine lv_aloadq_n hx hb dX7_sweep_19 rfl (lv_at hl 0 rfl) ?_
    obtain ⟨b18, ho18, hc18, hk18, hF⟩ := dr_some hF
    refine W_st (st' := [.ref (ad b18)]) (by rw [va_some ho18]) ?_
    refine va_get (D := D) (ci := 4) (v := .int (s2.2.2.1 b18 10)) (C := RX4) (T := TX4) (N := 18) hx hb hts (by decide +kernel) hown hK hP b18 (wld_o ct ad G s2.2.2 hc18 hk18 (by decide)) rfl 10 (by decide) (hts (.fieldLink RX7 123 "VideoSuite$Picture" "use" "I") (by decide +kernel)) (fun _ h9 => h9) rfl dX7_sweep_20 ?_
    obtain ⟨x19, ex19, hF⟩ := ltt_some hF
    refine lv_topi (fun zx19 ezx19 => ?_)
    obtain rfl : x19 = zx19 := ex19.trans ezx19.symm
    obtain ⟨y20, hy20, hF⟩ := bnd_some hF
    have J20 : ∀ (H : Heap) (locs : List Loc) (ls : Array Slot), va_P D classes (wld ct ad G y20.2) H → va_D A (wld ct ad G y20.2) → va_S A s.heap H locs → lv_has ls 4 [(3, va_re ad (s2.2.2.2 b17 s2.2.1.toNatClampNeg)), (2, .int s2.2.1), (1, .int y20.1), (0, .ref (ad a))] → W p l e (headSpec wsX7_sweep ({ frames := 0, cells := 0, slots := 0, locals := 0 })).room s m ([.ref (ad a)] : List Value).toArray below meth c H locs 0 0 (MQ below (va_Qv (fun (_ : Unit) => True) (fun _ t => kE D ct ad G A y t) A) ([.ref (ad a)] : List Value).toArray s 0 0 A) (F0 m 43 ls []) := by
      intro H locs ls hP hD hS hl
      obtain ⟨x21, ex21, hF⟩ := ltt_some hF
      refine lv_iinc (v := x21) (lv' := [(2, .int x21), (3, va_re ad (s2.2.2.2 b17 s2.2.1.toNatClampNeg)), (1, .int y20.1), (0, .ref (ad a))]) hx hb dX7_sweep_43 hl (k := 1) rfl (by rw [ex21]; rfl) (by decide) rfl (fun ls hl => ?_)
      refine lv_goto (tgt := 4) hx hb dX7_sweep_46 (by decide) ?_
      obtain rfl := Option.some.inj hF
      exact hwz14 _ _ _ hP hD hS (lv_sub hl [0, 2, 3] rfl)
    clear hF
    have hF := hy20
    clear hy20
    refine lv_if_ne (tgt := 33) hx hb dX7_sweep_23 (by decide) (fun c22 => ?_) (fun c22 => ?_)
    · rw [if_neg c22] at hF
      refine lv_aload_n hx hb dX7_sweep_33 rfl (lv_at hl 3 rfl) ?_
      refine va_get (D := D) (ci := 7) (v := va_re ad (s2.2.2.2 a 2)) (C := RX7) (T := TX7) (N := 17) hx hb hts (by decide +kernel) hown hK hP a (wld_o ct ad G s2.2.2 hc hk (by decide)) rfl 2 (by decide) (hts (.fieldLink RX7 17 "VideoSuite$Store" "kept" "[LVideoSuite$Picture;") (by decide +kernel)) (fun _ h9 => h9) rfl dX7_sweep_34 ?_
      refine lv_iload_n hx hb dX7_sweep_37 rfl (lv_at hl 2 rfl) ?_
      refine lv_aloadq_n hx hb dX7_sweep_38 rfl (lv_at hl 0 rfl) ?_
      refine W_st (st' := [va_re ad (s2.2.2.2 b17 s2.2.1.toNatClampNeg), .int s2.1, .ref (ad b17)]) (by rw [va_some ho17]) ?_
      obtain ⟨hvc, hF⟩ := chk_some hF
      obtain ⟨ho9, hF⟩ := chk_some hF
      refine st_q (o := ((s2.2.2.2 b17 s2.2.1.toNatClampNeg))) hx hb hK hP hD hS hc17 hk17 ho9 hvc dX7_sweep_39 (fun H locs hP hD hS => ?_)
      obtain ⟨M23, eM23, hF⟩ := ltt_some hF
      rw [← eM23] at hP hD
      obtain ⟨x24, ex24, hF⟩ := ltt_some hF
      refine lv_iinc (v := x24) (lv' := [(1, .int x24), (3, va_re ad (s2.2.2.2 b17 s2.2.1.toNatClampNeg)), (2, .int s2.2.1), (0, .ref (ad a))]) hx hb dX7_sweep_40 hl (k := 2) rfl (by rw [ex24]; rfl) (by decide) rfl (fun ls hl => ?_)
      obtain rfl := Option.some.inj hF
      exact J20 _ _ _ hP hD hS (lv_sub hl [1, 2, 0, 3] rfl)
    · rw [if_pos c22] at hF
      refine lv_aloadq_n hx hb dX7_sweep_26 rfl (lv_at hl 0 rfl) ?_
      refine W_st (st' := [.ref (ad b18)]) (by rw [va_some ho18]) ?_
      refine va_get (D := D) (ci := 4) (v := .int (s2.2.2.1 b18 12)) (C := RX4) (T := TX4) (N := 18) hx hb hts (by decide +kernel) hown hK hP b18 (wld_o ct ad G s2.2.2 hc18 hk18 (by decide)) rfl 12 (by decide) (hts (.fieldLink RX7 164 "VideoSuite$Picture" "isWaiting" "Z") (by decide +kernel)) (fun _ h9 => h9) rfl dX7_sweep_27 ?_
      obtain ⟨x25, ex25, hF⟩ := ltt_some hF
      refine lv_topi (fun zx25 ezx25 => ?_)
      obtain rfl : x25 = zx25 := ex25.trans ezx25.symm
      obtain ⟨y26, hy26, hF⟩ := bnd_some hF
      have J26 : ∀ (H : Heap) (locs : List Loc) (ls : Array Slot), va_P D classes (wld ct ad G y26.2) H → va_D A (wld ct ad G y26.2) → va_S A s.heap H locs → lv_has ls 4 [(3, va_re ad (s2.2.2.2 b17 s2.2.1.toNatClampNeg)), (2, .int s2.2.1), (1, .int y26.1), (0, .ref (ad a))] → W p l e (headSpec wsX7_sweep ({ frames := 0, cells := 0, slots := 0, locals := 0 })).room s m ([.ref (ad a)] : List Value).toArray below meth c H locs 0 0 (MQ below (va_Qv (fun (_ : Unit) => True) (fun _ t => kE D ct ad G A y t) A) ([.ref (ad a)] : List Value).toArray s 0 0 A) (F0 m 43 ls []) := by
        intro H locs ls hP hD hS hl
        obtain rfl := Option.some.inj hF
        exact J20 _ _ _ hP hD hS (lv_sub hl [0, 1, 2, 3] rfl)
      clear hF
      have hF := hy26
      clear hy26
      refine lv_if_eq (tgt := 43) hx hb dX7_sweep_30 (by decide) (fun c27 => ?_) (fun c27 => ?_)
      · rw [if_pos c27] at hF
        obtain rfl := Option.some.inj hF
        exact J26 _ _ _ hP hD hS (lv_sub hl [0, 1, 2, 3] rfl)
      · rw [if_neg c27] at hF
        refine lv_aload_n hx hb dX7_sweep_33 rfl (lv_at hl 3 rfl) ?_
        refine va_get (D := D) (ci := 7) (v := va_re ad (s2.2.2.2 a 2)) (C := RX7) (T := TX7) (N := 17) hx hb hts (by decide +kernel) hown hK hP a (wld_o ct ad G s2.2.2 hc hk (by decide)) rfl 2 (by decide) (hts (.fieldLink RX7 17 "VideoSuite$Store" "kept" "[LVideoSuite$Picture;") (by decide +kernel)) (fun _ h9 => h9) rfl dX7_sweep_34 ?_
        refine lv_iload_n hx hb dX7_sweep_37 rfl (lv_at hl 2 rfl) ?_
        refine lv_aloadq_n hx hb dX7_sweep_38 rfl (lv_at hl 0 rfl) ?_
        refine W_st (st' := [va_re ad (s2.2.2.2 b17 s2.2.1.toNatClampNeg), .int s2.1, .ref (ad b17)]) (by rw [va_some ho17]) ?_
        obtain ⟨hvc, hF⟩ := chk_some hF
        obtain ⟨ho9, hF⟩ := chk_some hF
        refine st_q (o := ((s2.2.2.2 b17 s2.2.1.toNatClampNeg))) hx hb hK hP hD hS hc17 hk17 ho9 hvc dX7_sweep_39 (fun H locs hP hD hS => ?_)
        obtain ⟨M28, eM28, hF⟩ := ltt_some hF
        rw [← eM28] at hP hD
        obtain ⟨x29, ex29, hF⟩ := ltt_some hF
        refine lv_iinc (v := x29) (lv' := [(1, .int x29), (3, va_re ad (s2.2.2.2 b17 s2.2.1.toNatClampNeg)), (2, .int s2.2.1), (0, .ref (ad a))]) hx hb dX7_sweep_40 hl (k := 2) rfl (by rw [ex29]; rfl) (by decide) rfl (fun ls hl => ?_)
        obtain rfl := Option.some.inj hF
        exact J26 _ _ _ hP hD hS (lv_sub hl [1, 2, 0, 3] rfl)
theorem dX7_tellApart_0 : decode cX7_tellApart 0 = .ok (.iconst 0, 1) := by decide +kernel
theorem dX7_tellApart_1 : decode cX7_tellApart 1 = .ok (.istore_n 2, 1) := by decide +kernel
theorem dX7_tellApart_2 : decode cX7_tellApart 2 = .ok (.iload_n 2, 1) := by decide +kernel
theorem dX7_tellApart_3 : decode cX7_tellApart 3 = .ok (.iload_n 1, 1) := by decide +kernel
theorem dX7_tellApart_4 : decode cX7_tellApart 4 = .ok (.if_icmp .ge 28, 3) := by decide +kernel
theorem dX7_tellApart_7 : decode cX7_tellApart 7 = .ok (.iload_n 2, 1) := by decide +kernel
theorem dX7_tellApart_8 : decode cX7_tellApart 8 = .ok (.bipush 9, 2) := by decide +kernel
theorem dX7_tellApart_10 : decode cX7_tellApart 10 = .ok (.if_icmp .ge 22, 3) := by decide +kernel
theorem dX7_tellApart_13 : decode cX7_tellApart 13 = .ok (.aload_n 0, 1) := by decide +kernel
theorem dX7_tellApart_14 : decode cX7_tellApart 14 = .ok (.iload_n 2, 1) := by decide +kernel
theorem dX7_tellApart_15 : decode cX7_tellApart 15 = .ok (.aaload, 1) := by decide +kernel
theorem dX7_tellApart_16 : decode cX7_tellApart 16 = .ok (.aload_n 0, 1) := by decide +kernel
theorem dX7_tellApart_17 : decode cX7_tellApart 17 = .ok (.bipush 9, 2) := by decide +kernel
theorem dX7_tellApart_19 : decode cX7_tellApart 19 = .ok (.iload_n 2, 1) := by decide +kernel
theorem dX7_tellApart_20 : decode cX7_tellApart 20 = .ok (.iadd, 1) := by decide +kernel
theorem dX7_tellApart_21 : decode cX7_tellApart 21 = .ok (.aaload, 1) := by decide +kernel
theorem dX7_tellApart_22 : decode cX7_tellApart 22 = .ok (.if_acmp .eq 4, 3) := by decide +kernel
theorem dX7_tellApart_25 : decode cX7_tellApart 25 = .ok (.return_, 1) := by decide +kernel
theorem dX7_tellApart_26 : decode cX7_tellApart 26 = .ok (.iinc 2 1, 3) := by decide +kernel
theorem dX7_tellApart_29 : decode cX7_tellApart 29 = .ok (.goto (-27), 3) := by decide +kernel
theorem dX7_tellApart_32 : decode cX7_tellApart 32 = .ok (.iload_n 1, 1) := by decide +kernel
theorem dX7_tellApart_33 : decode cX7_tellApart 33 = .ok (.iconst 1, 1) := by decide +kernel
theorem dX7_tellApart_34 : decode cX7_tellApart 34 = .ok (.if_icmp .le 21, 3) := by decide +kernel
theorem dX7_tellApart_37 : decode cX7_tellApart 37 = .ok (.aload_n 0, 1) := by decide +kernel
theorem dX7_tellApart_38 : decode cX7_tellApart 38 = .ok (.bipush 9, 2) := by decide +kernel
theorem dX7_tellApart_40 : decode cX7_tellApart 40 = .ok (.aaload, 1) := by decide +kernel
theorem dX7_tellApart_41 : decode cX7_tellApart 41 = .ok (.astore_n 2, 1) := by decide +kernel
theorem dX7_tellApart_42 : decode cX7_tellApart 42 = .ok (.aload_n 0, 1) := by decide +kernel
theorem dX7_tellApart_43 : decode cX7_tellApart 43 = .ok (.bipush 9, 2) := by decide +kernel
theorem dX7_tellApart_45 : decode cX7_tellApart 45 = .ok (.aload_n 0, 1) := by decide +kernel
theorem dX7_tellApart_46 : decode cX7_tellApart 46 = .ok (.bipush 10, 2) := by decide +kernel
theorem dX7_tellApart_48 : decode cX7_tellApart 48 = .ok (.aaload, 1) := by decide +kernel
theorem dX7_tellApart_49 : decode cX7_tellApart 49 = .ok (.aastore, 1) := by decide +kernel
theorem dX7_tellApart_50 : decode cX7_tellApart 50 = .ok (.aload_n 0, 1) := by decide +kernel
theorem dX7_tellApart_51 : decode cX7_tellApart 51 = .ok (.bipush 10, 2) := by decide +kernel
theorem dX7_tellApart_53 : decode cX7_tellApart 53 = .ok (.aload_n 2, 1) := by decide +kernel
theorem dX7_tellApart_54 : decode cX7_tellApart 54 = .ok (.aastore, 1) := by decide +kernel
theorem dX7_tellApart_55 : decode cX7_tellApart 55 = .ok (.return_, 1) := by decide +kernel
def FX7_tellApart (G : GG) (M : DD) (p0 : Option Nat) (p1 : Int32) : Option (DD) :=
  bnd (itr (fun (s2 : Int32) => ((if p1 ≤ s2 then (some (.inr (.inl (s2)))) else
  (if ((9 : Int32)) ≤ s2 then (some (.inr (.inl (s2)))) else
  (dr G 14 p0 fun b12 =>
  chk (¬ (s2 < 0 ∨ G.2.2 b12 ≤ s2.toNatClampNeg)) <|
  ltt ((((9 : Int32)) + s2)) fun x13 =>
  chk (¬ (x13 < 0 ∨ G.2.2 b12 ≤ x13.toNatClampNeg)) <|
  chk (okd G ((M.2 b12 s2.toNatClampNeg)) = true ∧ okd G ((M.2 b12 x13.toNatClampNeg)) = true) <|
  if ((M.2 b12 s2.toNatClampNeg)) = ((M.2 b12 x13.toNatClampNeg)) then (ltt (s2 + (1 : Int32)) fun x15 =>
  some (.inl (x15))) else
  (some (.inr (.inr M)))))) : Option ((Int32) ⊕ ((Int32) ⊕ (DD))))) 1000000 ((0 : Int32))) fun (y1 : (Int32) ⊕ (DD)) =>
  sel y1 (fun (z1k : Int32) =>
  bnd (if p1 ≤ ((1 : Int32)) then (some (M)) else
  (dr G 14 p0 fun b6 =>
  chk (¬ (((9 : Int32)) < 0 ∨ G.2.2 b6 ≤ ((9 : Int32)).toNatClampNeg)) <|
  chk (¬ (((10 : Int32)) < 0 ∨ G.2.2 b6 ≤ ((10 : Int32)).toNatClampNeg)) <|
  chk (¬ (((9 : Int32)) < 0 ∨ G.2.2 b6 ≤ ((9 : Int32)).toNatClampNeg)) <|
  chk (okr G 4 ((M.2 b6 ((10 : Int32)).toNatClampNeg)) = true) <|
  ltt (uP M b6 ((9 : Int32)).toNatClampNeg ((M.2 b6 ((10 : Int32)).toNatClampNeg))) fun M7 =>
  chk (¬ (((10 : Int32)) < 0 ∨ G.2.2 b6 ≤ ((10 : Int32)).toNatClampNeg)) <|
  chk (okr G 4 ((M.2 b6 ((9 : Int32)).toNatClampNeg)) = true) <|
  ltt (uP M7 b6 ((10 : Int32)).toNatClampNeg ((M.2 b6 ((9 : Int32)).toNatClampNeg))) fun M8 =>
  some (M8))) fun (y4 : DD) =>
  some y4) fun r9 => some r9
set_option maxHeartbeats 4000000 in
set_option maxRecDepth 100000 in
theorem kX7_tellApart (l : Launch) (D : va_G) (ct : CT) (ad : Nat → Nat) (Z : Nat → Nat) (G : GG) (M : DD) (sz : Nat) (p0 : Option Nat) (p1 : Int32) (y : DD) (hF : FX7_tellApart G M p0 p1 = some y) : Met l yX7_tellApart wsX7_tellApart ({ frames := 0, cells := 0, slots := 0, locals := 0 }) (va_Pc [va_re ad p0, .int p1] (kB D ct ad Z G M sz)) (va_Qv (fun (_ : Unit) => True) (fun _ t => kE D ct ad G (wA ad G sz) y t) (wA ad G sz)) 0 0 (wA ad G sz) := by
  refine Met.ofW (cc := cX7_tellApart) (maxL := 3) (ret := none) (by decide) rfl ?_
  intro p e s m args below meth c s₁ B hml hv
  obtain ⟨rfl, hsz, hP, hK, hD0, hZ, hN⟩ := hv
  have hx := B.exec
  have hb := B.bytes
  have hr := B.returns
  have hts := atoms_spec (ws := wsX7_tellApart) B.pre
  have hown : s.vm.findClass RX7 = some m.cls := findClass_of_methodNamed B.named
  have hlocks := B.notSynchronized
  subst hsz
  have hD := wD_self (sz := s.heap.size) hD0
  have hA9 : ∀ q, s.heap.size ≤ q → wA ad G s.heap.size q := fun q h => Or.inr h
  generalize hAe : wA ad G s.heap.size = A at hD hA9 hZ ⊢
  have hS : va_S A s.heap s.heap [] := va_S.rf
  have hl := lv_entry ([va_re ad p0, .int p1]) (n := 3) (by cases p0 <;> exact Nat.le_of_ble_eq_true rfl)
  rw [lg_entry_eq]
  generalize (lg_sl ([va_re ad p0, .int p1]) ++ List.replicate (3 - (lg_sl ([va_re ad p0, .int p1])).length) Slot.unset).toArray = ls at hl ⊢
  have hl : lv_has ls 3 [(0, va_re ad p0), (1, .int p1)] := by have e9 : lv_args 0 [va_re ad p0, .int p1] = [(0, va_re ad p0), (1, .int p1)] := (by cases p0 <;> rfl); rw [e9] at hl; exact hl
  unfold FX7_tellApart at hF
  refine lv_iconst (v := (0 : Int32)) hx hb dX7_tellApart_0 (by decide) ?_
  refine lv_istore_n (lv' := [(2, .int (0 : Int32)), (0, va_re ad p0), (1, .int p1)]) hx hb dX7_tellApart_1 rfl hl (by decide) rfl (fun ls hl => ?_)
  obtain ⟨y1, hy1, hF⟩ := bnd_some hF
  have K1 : ∀ z1k : Int32, y1 = .inl z1k → ∀ (H : Heap) (locs : List Loc) (ls : Array Slot), va_P D classes (wld ct ad G M) H → va_D A (wld ct ad G M) → va_S A s.heap H locs → lv_has ls 3 [(2, .int z1k), (0, va_re ad p0), (1, .int p1)] → W p l e (headSpec wsX7_tellApart ({ frames := 0, cells := 0, slots := 0, locals := 0 })).room s m ([va_re ad p0, .int p1] : List Value).toArray below meth c H locs 0 0 (MQ below (va_Qv (fun (_ : Unit) => True) (fun _ t => kE D ct ad G A y t) A) ([va_re ad p0, .int p1] : List Value).toArray s 0 0 A) (F0 m 32 ls []) := by
    intro z1k hz1 H locs ls hP hD hS hl
    have hF := sel_inl (hz1 ▸ hF)
    refine lv_iload_n hx hb dX7_tellApart_32 rfl (lv_at hl 2 rfl) ?_
    refine lv_iconst (v := (1 : Int32)) hx hb dX7_tellApart_33 (by decide) ?_
    obtain ⟨y4, hy4, hF⟩ := bnd_some hF
    have J4 : ∀ (H : Heap) (locs : List Loc) (ls : Array Slot), va_P D classes (wld ct ad G y4) H → va_D A (wld ct ad G y4) → va_S A s.heap H locs → lv_has ls 3 [(0, va_re ad p0), (1, .int p1)] → W p l e (headSpec wsX7_tellApart ({ frames := 0, cells := 0, slots := 0, locals := 0 })).room s m ([va_re ad p0, .int p1] : List Value).toArray below meth c H locs 0 0 (MQ below (va_Qv (fun (_ : Unit) => True) (fun _ t => kE D ct ad G A y t) A) ([va_re ad p0, .int p1] : List Value).toArray s 0 0 A) (F0 m 55 ls []) := by
      intro H locs ls hP hD hS hl
      obtain rfl := Option.some.inj hF
      exact W.vret hx hb hr (fun t ht hW => ⟨⟨(), rfl, trivial, ⟨by rw [ht]; exact hP, va_K.moved hW.alike hK, hD⟩⟩, hS.F ht⟩) hS.2.2 dX7_tellApart_55
    clear hF
    have hF := hy4
    clear hy4
    refine lv_icmp_le (tgt := 55) hx hb dX7_tellApart_34 (by decide) (fun c5 => ?_) (fun c5 => ?_)
    · rw [if_pos c5] at hF
      obtain rfl := Option.some.inj hF
      exact J4 _ _ _ hP hD hS (lv_sub hl [1, 2] rfl)
    · rw [if_neg c5] at hF
      refine lv_aloadq_n hx hb dX7_tellApart_37 rfl (lv_at hl 1 rfl) ?_
      refine lv_bipush (v := (9 : Int32)) hx hb dX7_tellApart_38 (by decide) ?_
      obtain ⟨b6, ho6, hc6, hk6, hF⟩ := dr_some hF
      refine W_st (st' := [.int (9 : Int32), .ref (ad b6)]) (by rw [va_some ho6]) ?_
      obtain ⟨hvc, hF⟩ := chk_some hF
      refine ld_q hx hb hK hP hc6 hk6 hvc dX7_tellApart_40 ?_
      refine lv_astoreq_n (lv' := [(2, va_re ad (M.2 b6 ((9 : Int32)).toNatClampNeg)), (0, va_re ad p0), (1, .int p1)]) hx hb dX7_tellApart_41 rfl hl (by decide) rfl (fun ls hl => ?_)
      refine lv_aloadq_n hx hb dX7_tellApart_42 rfl (lv_at hl 1 rfl) ?_
      refine lv_bipush (v := (9 : Int32)) hx hb dX7_tellApart_43 (by decide) ?_
      refine lv_aloadq_n hx hb dX7_tellApart_45 rfl (lv_at hl 1 rfl) ?_
      refine lv_bipush (v := (10 : Int32)) hx hb dX7_tellApart_46 (by decide) ?_
      refine W_st (st' := [.int (10 : Int32), .ref (ad b6), .int (9 : Int32), .ref (ad b6)]) (by rw [va_some ho6]) ?_
      obtain ⟨hvc, hF⟩ := chk_some hF
      refine ld_q hx hb hK hP hc6 hk6 hvc dX7_tellApart_48 ?_
      obtain ⟨hvc, hF⟩ := chk_some hF
      obtain ⟨ho9, hF⟩ := chk_some hF
      refine st_q (o := ((M.2 b6 ((10 : Int32)).toNatClampNeg))) hx hb hK hP hD hS hc6 hk6 ho9 hvc dX7_tellApart_49 (fun H locs hP hD hS => ?_)
      obtain ⟨M7, eM7, hF⟩ := ltt_some hF
      rw [← eM7] at hP hD
      refine lv_aloadq_n hx hb dX7_tellApart_50 rfl (lv_at hl 1 rfl) ?_
      refine lv_bipush (v := (10 : Int32)) hx hb dX7_tellApart_51 (by decide) ?_
      refine lv_aloadq_n hx hb dX7_tellApart_53 rfl (lv_at hl 0 rfl) ?_
      refine W_st (st' := [va_re ad (M.2 b6 ((9 : Int32)).toNatClampNeg), .int (10 : Int32), .ref (ad b6)]) (by rw [va_some ho6]) ?_
      obtain ⟨hvc, hF⟩ := chk_some hF
      obtain ⟨ho9, hF⟩ := chk_some hF
      refine st_q (o := ((M.2 b6 ((9 : Int32)).toNatClampNeg))) hx hb hK hP hD hS hc6 hk6 ho9 hvc dX7_tellApart_54 (fun H locs hP hD hS => ?_)
      obtain ⟨M8, eM8, hF⟩ := ltt_some hF
      rw [← eM8] at hP hD
      obtain rfl := Option.some.inj hF
      exact J4 _ _ _ hP hD hS (lv_sub hl [1, 2] rfl)
  have hR1 := hF
  clear hF
  refine itr_rule (fun (s2 : Int32) => ∀ (H : Heap) (locs : List Loc) (ls : Array Slot), va_P D classes (wld ct ad G M) H → va_D A (wld ct ad G M) → va_S A s.heap H locs → lv_has ls 3 [(2, .int s2), (0, va_re ad p0), (1, .int p1)] → W p l e (headSpec wsX7_tellApart ({ frames := 0, cells := 0, slots := 0, locals := 0 })).room s m ([va_re ad p0, .int p1] : List Value).toArray below meth c H locs 0 0 (MQ below (va_Qv (fun (_ : Unit) => True) (fun _ t => kE D ct ad G A y t) A) ([va_re ad p0, .int p1] : List Value).toArray s 0 0 A) (F0 m 2 ls [])) ?_ _ _ hy1 _ _ _ hP hD hS (lv_sub hl [0, 1, 2] rfl)
  rintro s2 ⟨z9, hF, hwz9⟩ H locs ls hP hD hS hl
  try dsimp only at hF
  refine lv_iload_n hx hb dX7_tellApart_2 rfl (lv_at hl 0 rfl) ?_
  refine lv_iload_n hx hb dX7_tellApart_3 rfl (lv_at hl 2 rfl) ?_
  refine lv_icmp_ge (tgt := 32) hx hb dX7_tellApart_4 (by decide) (fun c10 => ?_) (fun c10 => ?_)
  · rw [if_pos c10] at hF
    obtain rfl := Option.some.inj hF
    exact K1 _ hwz9.symm _ _ _ hP hD hS (lv_sub hl [0, 1, 2] rfl)
  · rw [if_neg c10] at hF
    refine lv_iload_n hx hb dX7_tellApart_7 rfl (lv_at hl 0 rfl) ?_
    refine lv_bipush (v := (9 : Int32)) hx hb dX7_tellApart_8 (by decide) ?_
    refine lv_icmp_ge (tgt := 32) hx hb dX7_tellApart_10 (by decide) (fun c11 => ?_) (fun c11 => ?_)
    · rw [if_pos c11] at hF
      obtain rfl := Option.some.inj hF
      exact K1 _ hwz9.symm _ _ _ hP hD hS (lv_sub hl [0, 1, 2] rfl)
    · rw [if_neg c11] at hF
      refine lv_aloadq_n hx hb dX7_tellApart_13 rfl (lv_at hl 1 rfl) ?_
      refine lv_iload_n hx hb dX7_tellApart_14 rfl (lv_at hl 0 rfl) ?_
      obtain ⟨b12, ho12, hc12, hk12, hF⟩ := dr_some hF
      refine W_st (st' := [.int s2, .ref (ad b12)]) (by rw [va_some ho12]) ?_
      obtain ⟨hvc, hF⟩ := chk_some hF
      refine ld_q hx hb hK hP hc12 hk12 hvc dX7_tellApart_15 ?_
      refine lv_aloadq_n hx hb dX7_tellApart_16 rfl (lv_at hl 1 rfl) ?_
      refine lv_bipush (v := (9 : Int32)) hx hb dX7_tellApart_17 (by decide) ?_
      refine lv_iload_n hx hb dX7_tellApart_19 rfl (lv_at hl 0 rfl) ?_
      refine lv_iadd hx hb dX7_tellApart_20 ?_
      obtain ⟨x13, ex13, hF⟩ := ltt_some hF
      refine lv_topi (fun zx13 ezx13 => ?_)
      obtain rfl : x13 = zx13 := ex13.trans ezx13.symm
      refine W_st (st' := [.int x13, .ref (ad b12), va_re ad (M.2 b12 s2.toNatClampNeg)]) (by rw [va_some ho12]) ?_
      obtain ⟨hvc, hF⟩ := chk_some hF
      refine ld_q hx hb hK hP hc12 hk12 hvc dX7_tellApart_21 ?_
      refine lv_acmpq_eq (x := ((M.2 b12 s2.toNatClampNeg))) (y := ((M.2 b12 x13.toNatClampNeg))) (tgt := 26) hx hb hD (chk_some hF).1.1 (chk_some hF).1.2 dX7_tellApart_22 (by decide) (fun c14 => ?_) (fun c14 => ?_)
      all_goals (replace hF := (chk_some hF).2)
      · rw [if_pos c14] at hF
        obtain ⟨x15, ex15, hF⟩ := ltt_some hF
        refine lv_iinc (v := x15) (lv' := [(2, .int x15), (0, va_re ad p0), (1, .int p1)]) hx hb dX7_tellApart_26 hl (k := 0) rfl (by rw [ex15]; rfl) (by decide) rfl (fun ls hl => ?_)
        refine lv_goto (tgt := 2) hx hb dX7_tellApart_29 (by decide) ?_
        obtain rfl := Option.some.inj hF
        exact hwz9 _ _ _ hP hD hS (lv_sub hl [0, 1, 2] rfl)
      · rw [if_neg c14] at hF
        obtain rfl := Option.some.inj hF
        have hF := sel_inr (hwz9 ▸ hR1)
        obtain rfl := Option.some.inj hF
        exact W.vret hx hb hr (fun t ht hW => ⟨⟨(), rfl, trivial, ⟨by rw [ht]; exact hP, va_K.moved hW.alike hK, hD⟩⟩, hS.F ht⟩) hS.2.2 dX7_tellApart_25
