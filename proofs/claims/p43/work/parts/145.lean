theorem ggX2_measure_X9_pieceX : GoodIn wsX2_measure wsX9_pieceX := goodIn_r _ [9] (by decide +kernel) (by decide +kernel)
set_option maxRecDepth 20000 in
theorem gX2_measure_X9_pieceX : GoodIn wsX2_measure (va_wsS RX2 78 yX9_pieceX wsX9_pieceX) := goodIn_app (goodIn_of _ (by decide +kernel)) ggX2_measure_X9_pieceX
set_option maxRecDepth 20000 in
theorem ggX2_measure_X9_pieceY : GoodIn wsX2_measure wsX9_pieceY := goodIn_r _ [12] (by decide +kernel) (by decide +kernel)
set_option maxRecDepth 20000 in
theorem gX2_measure_X9_pieceY : GoodIn wsX2_measure (va_wsS RX2 82 yX9_pieceY wsX9_pieceY) := goodIn_app (goodIn_of _ (by decide +kernel)) ggX2_measure_X9_pieceY
set_option maxRecDepth 20000 in
theorem ggX2_measure_X2_strengthOf : GoodIn wsX2_measure wsX2_strengthOf := goodIn_r _ [16, 4, 17, 1, 18, 19, 20, 21, 22, 23, 24, 25, 26, 27, 28, 29, 30, 31, 32, 33, 34, 35, 36, 37, 38, 39, 40, 41, 42, 43, 44, 45, 46, 47, 48, 49, 50, 51, 52, 53, 54, 55, 56, 57, 58, 59, 60, 61, 62, 63, 64, 65, 66] (by decide +kernel) (by decide +kernel)
set_option maxRecDepth 20000 in
theorem gX2_measure_X2_strengthOf : GoodIn wsX2_measure (va_wsS RX2 85 yX2_strengthOf wsX2_strengthOf) := goodIn_app (goodIn_of _ (by decide +kernel)) ggX2_measure_X2_strengthOf
theorem dX2_measure_0 : decode cX2_measure 0 = .ok (.aload_n 1, 1) := by decide +kernel
theorem dX2_measure_1 : decode cX2_measure 1 = .ok (.getfield 15, 3) := by decide +kernel
theorem dX2_measure_4 : decode cX2_measure 4 = .ok (.getfield 49, 3) := by decide +kernel
theorem dX2_measure_7 : decode cX2_measure 7 = .ok (.istore_n 3, 1) := by decide +kernel
theorem dX2_measure_8 : decode cX2_measure 8 = .ok (.aload_n 1, 1) := by decide +kernel
theorem dX2_measure_9 : decode cX2_measure 9 = .ok (.getfield 75, 3) := by decide +kernel
theorem dX2_measure_12 : decode cX2_measure 12 = .ok (.iconst 3, 1) := by decide +kernel
theorem dX2_measure_13 : decode cX2_measure 13 = .ok (.iload_n 2, 1) := by decide +kernel
theorem dX2_measure_14 : decode cX2_measure 14 = .ok (.imul, 1) := by decide +kernel
theorem dX2_measure_15 : decode cX2_measure 15 = .ok (.iaload, 1) := by decide +kernel
theorem dX2_measure_16 : decode cX2_measure 16 = .ok (.istore 4, 2) := by decide +kernel
theorem dX2_measure_18 : decode cX2_measure 18 = .ok (.iconst 0, 1) := by decide +kernel
theorem dX2_measure_19 : decode cX2_measure 19 = .ok (.istore 5, 2) := by decide +kernel
theorem dX2_measure_21 : decode cX2_measure 21 = .ok (.iload 5, 2) := by decide +kernel
theorem dX2_measure_23 : decode cX2_measure 23 = .ok (.iconst 2, 1) := by decide +kernel
theorem dX2_measure_24 : decode cX2_measure 24 = .ok (.if_icmp .ge 255, 3) := by decide +kernel
theorem dX2_measure_27 : decode cX2_measure 27 = .ok (.iload 5, 2) := by decide +kernel
theorem dX2_measure_29 : decode cX2_measure 29 = .ok (.ifCond .ne 19, 3) := by decide +kernel
theorem dX2_measure_32 : decode cX2_measure 32 = .ok (.iload_n 2, 1) := by decide +kernel
theorem dX2_measure_33 : decode cX2_measure 33 = .ok (.iload_n 3, 1) := by decide +kernel
theorem dX2_measure_34 : decode cX2_measure 34 = .ok (.irem, 1) := by decide +kernel
theorem dX2_measure_35 : decode cX2_measure 35 = .ok (.ifCond .le 9, 3) := by decide +kernel
theorem dX2_measure_38 : decode cX2_measure 38 = .ok (.iload_n 2, 1) := by decide +kernel
theorem dX2_measure_39 : decode cX2_measure 39 = .ok (.iconst 1, 1) := by decide +kernel
theorem dX2_measure_40 : decode cX2_measure 40 = .ok (.isub, 1) := by decide +kernel
theorem dX2_measure_41 : decode cX2_measure 41 = .ok (.goto 10, 3) := by decide +kernel
theorem dX2_measure_44 : decode cX2_measure 44 = .ok (.iconst (-1), 1) := by decide +kernel
theorem dX2_measure_45 : decode cX2_measure 45 = .ok (.goto 6, 3) := by decide +kernel
theorem dX2_measure_48 : decode cX2_measure 48 = .ok (.iload_n 2, 1) := by decide +kernel
theorem dX2_measure_49 : decode cX2_measure 49 = .ok (.iload_n 3, 1) := by decide +kernel
theorem dX2_measure_50 : decode cX2_measure 50 = .ok (.isub, 1) := by decide +kernel
theorem dX2_measure_51 : decode cX2_measure 51 = .ok (.istore 6, 2) := by decide +kernel
theorem dX2_measure_53 : decode cX2_measure 53 = .ok (.iload 6, 2) := by decide +kernel
theorem dX2_measure_55 : decode cX2_measure 55 = .ok (.ifCond .lt 41, 3) := by decide +kernel
theorem dX2_measure_58 : decode cX2_measure 58 = .ok (.iload 4, 2) := by decide +kernel
theorem dX2_measure_60 : decode cX2_measure 60 = .ok (.iconst 2, 1) := by decide +kernel
theorem dX2_measure_61 : decode cX2_measure 61 = .ok (.if_icmp .ne 31, 3) := by decide +kernel
theorem dX2_measure_64 : decode cX2_measure 64 = .ok (.aload_n 1, 1) := by decide +kernel
theorem dX2_measure_65 : decode cX2_measure 65 = .ok (.getfield 27, 3) := by decide +kernel
theorem dX2_measure_68 : decode cX2_measure 68 = .ok (.bipush 8, 2) := by decide +kernel
theorem dX2_measure_70 : decode cX2_measure 70 = .ok (.iload_n 2, 1) := by decide +kernel
theorem dX2_measure_71 : decode cX2_measure 71 = .ok (.imul, 1) := by decide +kernel
theorem dX2_measure_72 : decode cX2_measure 72 = .ok (.bipush 6, 2) := by decide +kernel
theorem dX2_measure_74 : decode cX2_measure 74 = .ok (.iadd, 1) := by decide +kernel
theorem dX2_measure_75 : decode cX2_measure 75 = .ok (.iaload, 1) := by decide +kernel
theorem dX2_measure_76 : decode cX2_measure 76 = .ok (.aload_n 1, 1) := by decide +kernel
theorem dX2_measure_77 : decode cX2_measure 77 = .ok (.getfield 27, 3) := by decide +kernel
theorem dX2_measure_80 : decode cX2_measure 80 = .ok (.bipush 8, 2) := by decide +kernel
theorem dX2_measure_82 : decode cX2_measure 82 = .ok (.iload 6, 2) := by decide +kernel
theorem dX2_measure_84 : decode cX2_measure 84 = .ok (.imul, 1) := by decide +kernel
theorem dX2_measure_85 : decode cX2_measure 85 = .ok (.bipush 6, 2) := by decide +kernel
theorem dX2_measure_87 : decode cX2_measure 87 = .ok (.iadd, 1) := by decide +kernel
theorem dX2_measure_88 : decode cX2_measure 88 = .ok (.iaload, 1) := by decide +kernel
theorem dX2_measure_89 : decode cX2_measure 89 = .ok (.if_icmp .ne 7, 3) := by decide +kernel
theorem dX2_measure_92 : decode cX2_measure 92 = .ok (.iconst 1, 1) := by decide +kernel
theorem dX2_measure_93 : decode cX2_measure 93 = .ok (.goto 4, 3) := by decide +kernel
theorem dX2_measure_96 : decode cX2_measure 96 = .ok (.iconst 0, 1) := by decide +kernel
theorem dX2_measure_97 : decode cX2_measure 97 = .ok (.istore 7, 2) := by decide +kernel
theorem dX2_measure_99 : decode cX2_measure 99 = .ok (.iconst 0, 1) := by decide +kernel
theorem dX2_measure_100 : decode cX2_measure 100 = .ok (.istore 8, 2) := by decide +kernel
theorem dX2_measure_102 : decode cX2_measure 102 = .ok (.iload 8, 2) := by decide +kernel
theorem dX2_measure_104 : decode cX2_measure 104 = .ok (.bipush 16, 2) := by decide +kernel
theorem dX2_measure_106 : decode cX2_measure 106 = .ok (.if_icmp .ge 167, 3) := by decide +kernel
theorem dX2_measure_109 : decode cX2_measure 109 = .ok (.iload 8, 2) := by decide +kernel
theorem dX2_measure_111 : decode cX2_measure 111 = .ok (.invokestatic 78, 3) := by decide +kernel
theorem dX2_measure_114 : decode cX2_measure 114 = .ok (.iload 5, 2) := by decide +kernel
theorem dX2_measure_116 : decode cX2_measure 116 = .ok (.ifCond .ne 7, 3) := by decide +kernel
theorem dX2_measure_119 : decode cX2_measure 119 = .ok (.iconst 4, 1) := by decide +kernel
theorem dX2_measure_120 : decode cX2_measure 120 = .ok (.goto 4, 3) := by decide +kernel
theorem dX2_measure_123 : decode cX2_measure 123 = .ok (.iconst 0, 1) := by decide +kernel
theorem dX2_measure_124 : decode cX2_measure 124 = .ok (.isub, 1) := by decide +kernel
theorem dX2_measure_125 : decode cX2_measure 125 = .ok (.istore 9, 2) := by decide +kernel
theorem dX2_measure_127 : decode cX2_measure 127 = .ok (.iload 8, 2) := by decide +kernel
theorem dX2_measure_129 : decode cX2_measure 129 = .ok (.invokestatic 82, 3) := by decide +kernel
theorem dX2_measure_132 : decode cX2_measure 132 = .ok (.iload 5, 2) := by decide +kernel
theorem dX2_measure_134 : decode cX2_measure 134 = .ok (.iconst 1, 1) := by decide +kernel
theorem dX2_measure_135 : decode cX2_measure 135 = .ok (.if_icmp .ne 7, 3) := by decide +kernel
theorem dX2_measure_138 : decode cX2_measure 138 = .ok (.iconst 4, 1) := by decide +kernel
theorem dX2_measure_139 : decode cX2_measure 139 = .ok (.goto 4, 3) := by decide +kernel
theorem dX2_measure_142 : decode cX2_measure 142 = .ok (.iconst 0, 1) := by decide +kernel
theorem dX2_measure_143 : decode cX2_measure 143 = .ok (.isub, 1) := by decide +kernel
theorem dX2_measure_144 : decode cX2_measure 144 = .ok (.istore 10, 2) := by decide +kernel
theorem dX2_measure_146 : decode cX2_measure 146 = .ok (.iload 9, 2) := by decide +kernel
theorem dX2_measure_148 : decode cX2_measure 148 = .ok (.ifCond .lt 12, 3) := by decide +kernel
theorem dX2_measure_151 : decode cX2_measure 151 = .ok (.iload 10, 2) := by decide +kernel
theorem dX2_measure_153 : decode cX2_measure 153 = .ok (.ifCond .lt 7, 3) := by decide +kernel
theorem dX2_measure_156 : decode cX2_measure 156 = .ok (.iconst 1, 1) := by decide +kernel
theorem dX2_measure_157 : decode cX2_measure 157 = .ok (.goto 4, 3) := by decide +kernel
theorem dX2_measure_160 : decode cX2_measure 160 = .ok (.iconst 0, 1) := by decide +kernel
theorem dX2_measure_161 : decode cX2_measure 161 = .ok (.istore 11, 2) := by decide +kernel
theorem dX2_measure_163 : decode cX2_measure 163 = .ok (.iconst 0, 1) := by decide +kernel
theorem dX2_measure_164 : decode cX2_measure 164 = .ok (.istore 12, 2) := by decide +kernel
theorem dX2_measure_166 : decode cX2_measure 166 = .ok (.iload 4, 2) := by decide +kernel
theorem dX2_measure_168 : decode cX2_measure 168 = .ok (.iconst 1, 1) := by decide +kernel
theorem dX2_measure_169 : decode cX2_measure 169 = .ok (.if_icmp .eq 79, 3) := by decide +kernel
theorem dX2_measure_172 : decode cX2_measure 172 = .ok (.iload 11, 2) := by decide +kernel
theorem dX2_measure_174 : decode cX2_measure 174 = .ok (.ifCond .ne 8, 3) := by decide +kernel
theorem dX2_measure_177 : decode cX2_measure 177 = .ok (.iload 7, 2) := by decide +kernel
theorem dX2_measure_179 : decode cX2_measure 179 = .ok (.ifCond .eq 69, 3) := by decide +kernel
theorem dX2_measure_182 : decode cX2_measure 182 = .ok (.iload 10, 2) := by decide +kernel
theorem dX2_measure_184 : decode cX2_measure 184 = .ok (.iconst 3, 1) := by decide +kernel
theorem dX2_measure_185 : decode cX2_measure 185 = .ok (.ishr, 1) := by decide +kernel
theorem dX2_measure_186 : decode cX2_measure 186 = .ok (.iconst 1, 1) := by decide +kernel
theorem dX2_measure_187 : decode cX2_measure 187 = .ok (.iand, 1) := by decide +kernel
theorem dX2_measure_188 : decode cX2_measure 188 = .ok (.bipush 8, 2) := by decide +kernel
theorem dX2_measure_190 : decode cX2_measure 190 = .ok (.imul, 1) := by decide +kernel
theorem dX2_measure_191 : decode cX2_measure 191 = .ok (.iload 9, 2) := by decide +kernel
theorem dX2_measure_193 : decode cX2_measure 193 = .ok (.iconst 3, 1) := by decide +kernel
theorem dX2_measure_194 : decode cX2_measure 194 = .ok (.ishr, 1) := by decide +kernel
theorem dX2_measure_195 : decode cX2_measure 195 = .ok (.iconst 1, 1) := by decide +kernel
theorem dX2_measure_196 : decode cX2_measure 196 = .ok (.iand, 1) := by decide +kernel
theorem dX2_measure_197 : decode cX2_measure 197 = .ok (.iconst 4, 1) := by decide +kernel
theorem dX2_measure_198 : decode cX2_measure 198 = .ok (.imul, 1) := by decide +kernel
theorem dX2_measure_199 : decode cX2_measure 199 = .ok (.iadd, 1) := by decide +kernel
theorem dX2_measure_200 : decode cX2_measure 200 = .ok (.iload 10, 2) := by decide +kernel
theorem dX2_measure_202 : decode cX2_measure 202 = .ok (.iconst 2, 1) := by decide +kernel
theorem dX2_measure_203 : decode cX2_measure 203 = .ok (.ishr, 1) := by decide +kernel
theorem dX2_measure_204 : decode cX2_measure 204 = .ok (.iconst 1, 1) := by decide +kernel
theorem dX2_measure_205 : decode cX2_measure 205 = .ok (.iand, 1) := by decide +kernel
theorem dX2_measure_206 : decode cX2_measure 206 = .ok (.iconst 2, 1) := by decide +kernel
theorem dX2_measure_207 : decode cX2_measure 207 = .ok (.imul, 1) := by decide +kernel
theorem dX2_measure_208 : decode cX2_measure 208 = .ok (.iadd, 1) := by decide +kernel
theorem dX2_measure_209 : decode cX2_measure 209 = .ok (.iload 9, 2) := by decide +kernel
theorem dX2_measure_211 : decode cX2_measure 211 = .ok (.iconst 2, 1) := by decide +kernel
theorem dX2_measure_212 : decode cX2_measure 212 = .ok (.ishr, 1) := by decide +kernel
theorem dX2_measure_213 : decode cX2_measure 213 = .ok (.iconst 1, 1) := by decide +kernel
theorem dX2_measure_214 : decode cX2_measure 214 = .ok (.iand, 1) := by decide +kernel
theorem dX2_measure_215 : decode cX2_measure 215 = .ok (.iadd, 1) := by decide +kernel
theorem dX2_measure_216 : decode cX2_measure 216 = .ok (.istore 13, 2) := by decide +kernel
theorem dX2_measure_218 : decode cX2_measure 218 = .ok (.aload_n 1, 1) := by decide +kernel
theorem dX2_measure_219 : decode cX2_measure 219 = .ok (.bipush 16, 2) := by decide +kernel
theorem dX2_measure_221 : decode cX2_measure 221 = .ok (.iload 11, 2) := by decide +kernel
theorem dX2_measure_223 : decode cX2_measure 223 = .ok (.ifCond .eq 7, 3) := by decide +kernel
theorem dX2_measure_226 : decode cX2_measure 226 = .ok (.iload_n 2, 1) := by decide +kernel
theorem dX2_measure_227 : decode cX2_measure 227 = .ok (.goto 5, 3) := by decide +kernel
theorem dX2_measure_230 : decode cX2_measure 230 = .ok (.iload 6, 2) := by decide +kernel
theorem dX2_measure_232 : decode cX2_measure 232 = .ok (.imul, 1) := by decide +kernel
theorem dX2_measure_233 : decode cX2_measure 233 = .ok (.iload 13, 2) := by decide +kernel
theorem dX2_measure_235 : decode cX2_measure 235 = .ok (.iadd, 1) := by decide +kernel
theorem dX2_measure_236 : decode cX2_measure 236 = .ok (.bipush 16, 2) := by decide +kernel
theorem dX2_measure_238 : decode cX2_measure 238 = .ok (.iload_n 2, 1) := by decide +kernel
theorem dX2_measure_239 : decode cX2_measure 239 = .ok (.imul, 1) := by decide +kernel
theorem dX2_measure_240 : decode cX2_measure 240 = .ok (.iload 8, 2) := by decide +kernel
theorem dX2_measure_242 : decode cX2_measure 242 = .ok (.iadd, 1) := by decide +kernel
theorem dX2_measure_243 : decode cX2_measure 243 = .ok (.invokestatic 85, 3) := by decide +kernel
theorem dX2_measure_246 : decode cX2_measure 246 = .ok (.istore 12, 2) := by decide +kernel
theorem dX2_measure_248 : decode cX2_measure 248 = .ok (.aload_n 0, 1) := by decide +kernel
theorem dX2_measure_249 : decode cX2_measure 249 = .ok (.getfield 9, 3) := by decide +kernel
theorem dX2_measure_252 : decode cX2_measure 252 = .ok (.iconst 2, 1) := by decide +kernel
theorem dX2_measure_253 : decode cX2_measure 253 = .ok (.bipush 16, 2) := by decide +kernel
theorem dX2_measure_255 : decode cX2_measure 255 = .ok (.iload_n 2, 1) := by decide +kernel
theorem dX2_measure_256 : decode cX2_measure 256 = .ok (.imul, 1) := by decide +kernel
theorem dX2_measure_257 : decode cX2_measure 257 = .ok (.iload 8, 2) := by decide +kernel
theorem dX2_measure_259 : decode cX2_measure 259 = .ok (.iadd, 1) := by decide +kernel
theorem dX2_measure_260 : decode cX2_measure 260 = .ok (.imul, 1) := by decide +kernel
theorem dX2_measure_261 : decode cX2_measure 261 = .ok (.iload 5, 2) := by decide +kernel
theorem dX2_measure_263 : decode cX2_measure 263 = .ok (.iadd, 1) := by decide +kernel
theorem dX2_measure_264 : decode cX2_measure 264 = .ok (.iload 12, 2) := by decide +kernel
theorem dX2_measure_266 : decode cX2_measure 266 = .ok (.iastore, 1) := by decide +kernel
theorem dX2_measure_267 : decode cX2_measure 267 = .ok (.iinc 8 1, 3) := by decide +kernel
theorem dX2_measure_270 : decode cX2_measure 270 = .ok (.goto (-168), 3) := by decide +kernel
theorem dX2_measure_273 : decode cX2_measure 273 = .ok (.iinc 5 1, 3) := by decide +kernel
theorem dX2_measure_276 : decode cX2_measure 276 = .ok (.goto (-255), 3) := by decide +kernel
theorem dX2_measure_279 : decode cX2_measure 279 = .ok (.return_, 1) := by decide +kernel
def FX2_measure (G : GG) (M : DD) (a : Nat) (p0 : Option Nat) (p1 : Int32) : Option (DD) :=
  dr G 9 p0 fun b2 =>
  dr G 4 ((M.2 b2 0)) fun b3 =>
  ltt (M.1 b3 1) fun x4 =>
  ltt ((((3 : Int32)) * p1)) fun x5 =>
  dr G 13 ((M.2 b2 10)) fun b6 =>
  chk (¬ (x5 < 0 ∨ G.2.2 b6 ≤ x5.toNatClampNeg)) <|
  ltt (M.1 b6 x5.toNatClampNeg) fun x7 =>
  bnd (itr (fun (s9 : Int32 × DD) => ((if ((2 : Int32)) ≤ s9.1 then (some (.inr (s9.1, s9.2))) else
  (bnd (if s9.1 = ((0 : Int32)) then (chk (¬ x4 = 0) <|
  ltt (p1 - p1 / x4 * x4) fun x102 =>
  bnd (if x102 ≤ ((0 : Int32)) then (some ((-1 : Int32))) else
  (ltt ((p1 - ((1 : Int32)))) fun x105 =>
  some (x105))) fun (y103 : Int32) =>
  some (y103)) else
  (ltt ((p1 - x4)) fun x101 =>
  some (x101))) fun (y13 : Int32) =>
  bnd (if y13 < ((0 : Int32)) then (some ((0 : Int32))) else
  (bnd (if x7 = ((2 : Int32)) then (ltt ((((8 : Int32)) * p1)) fun x91 =>
  ltt ((x91 + ((6 : Int32)))) fun x92 =>
  dr G 13 ((s9.2.2 b2 6)) fun b93 =>
  chk (¬ (x92 < 0 ∨ G.2.2 b93 ≤ x92.toNatClampNeg)) <|
  ltt (s9.2.1 b93 x92.toNatClampNeg) fun x94 =>
  ltt ((((8 : Int32)) * y13)) fun x95 =>
  ltt ((x95 + ((6 : Int32)))) fun x96 =>
  chk (¬ (x96 < 0 ∨ G.2.2 b93 ≤ x96.toNatClampNeg)) <|
  ltt (s9.2.1 b93 x96.toNatClampNeg) fun x97 =>
  bnd (if x94 = x97 then (some ((1 : Int32))) else
  (some ((0 : Int32)))) fun (y98 : Int32) =>
  some (y98)) else
  (some ((1 : Int32)))) fun (y89 : Int32) =>
  some (y89))) fun (y14 : Int32) =>
  bnd (itr (fun (s16 : Int32 × DD) => ((if ((16 : Int32)) ≤ s16.1 then (some (.inr (s16.1, s16.2))) else
  (bnd (FX9_pieceX G s16.2 s16.1) fun y21 =>
  bnd (if s9.1 = ((0 : Int32)) then (some ((4 : Int32))) else
  (some ((0 : Int32)))) fun (y22 : Int32) =>
  ltt ((y21.2 - y22)) fun x23 =>
  bnd (FX9_pieceY G y21.1 s16.1) fun y24 =>
  bnd (if s9.1 = ((1 : Int32)) then (some ((4 : Int32))) else
  (some ((0 : Int32)))) fun (y25 : Int32) =>
  ltt ((y24.2 - y25)) fun x26 =>
  bnd (if x23 < ((0 : Int32)) then (some ((0 : Int32))) else
  (bnd (if x26 < ((0 : Int32)) then (some ((0 : Int32))) else
  (some ((1 : Int32)))) fun (y84 : Int32) =>
  some (y84))) fun (y27 : Int32) =>
  bnd (if x7 = ((1 : Int32)) then (some ((0 : Int32), y24.1)) else
  (bnd (if y27 = ((0 : Int32)) then (bnd (if y14 = ((0 : Int32)) then (some ((0 : Int32), y24.1)) else
  (ltt ((x26 >>> (((3 : Int32)) &&& 31))) fun x62 =>
  ltt ((x62 &&& ((1 : Int32)))) fun x63 =>
  ltt ((x63 * ((8 : Int32)))) fun x64 =>
  ltt ((x23 >>> (((3 : Int32)) &&& 31))) fun x65 =>
  ltt ((x65 &&& ((1 : Int32)))) fun x66 =>
  ltt ((x66 * ((4 : Int32)))) fun x67 =>
  ltt ((x64 + x67)) fun x68 =>
  ltt ((x26 >>> (((2 : Int32)) &&& 31))) fun x69 =>
  ltt ((x69 &&& ((1 : Int32)))) fun x70 =>
  ltt ((x70 * ((2 : Int32)))) fun x71 =>
  ltt ((x68 + x71)) fun x72 =>
  ltt ((x23 >>> (((2 : Int32)) &&& 31))) fun x73 =>
  ltt ((x73 &&& ((1 : Int32)))) fun x74 =>
  ltt ((x72 + x74)) fun x75 =>
  bnd (if y27 = ((0 : Int32)) then (some (y13)) else
  (some (p1))) fun (y76 : Int32) =>
  ltt ((((16 : Int32)) * y76)) fun x77 =>
  ltt ((x77 + x75)) fun x78 =>
  ltt ((((16 : Int32)) * p1)) fun x79 =>
  ltt ((x79 + s16.1)) fun x80 =>
  bnd (FX2_strengthOf G y24.1 p0 x78 x80) fun y81 =>
  some (y81.2, y81.1))) fun (y60 : Int32 × DD) =>
  some (y60.1, y60.2)) else
  (ltt ((x26 >>> (((3 : Int32)) &&& 31))) fun x39 =>
  ltt ((x39 &&& ((1 : Int32)))) fun x40 =>
  ltt ((x40 * ((8 : Int32)))) fun x41 =>
  ltt ((x23 >>> (((3 : Int32)) &&& 31))) fun x42 =>
  ltt ((x42 &&& ((1 : Int32)))) fun x43 =>
  ltt ((x43 * ((4 : Int32)))) fun x44 =>
  ltt ((x41 + x44)) fun x45 =>
  ltt ((x26 >>> (((2 : Int32)) &&& 31))) fun x46 =>
  ltt ((x46 &&& ((1 : Int32)))) fun x47 =>
  ltt ((x47 * ((2 : Int32)))) fun x48 =>
  ltt ((x45 + x48)) fun x49 =>
  ltt ((x23 >>> (((2 : Int32)) &&& 31))) fun x50 =>
  ltt ((x50 &&& ((1 : Int32)))) fun x51 =>
  ltt ((x49 + x51)) fun x52 =>
  bnd (if y27 = ((0 : Int32)) then (some (y13)) else
  (some (p1))) fun (y53 : Int32) =>
  ltt ((((16 : Int32)) * y53)) fun x54 =>
  ltt ((x54 + x52)) fun x55 =>
  ltt ((((16 : Int32)) * p1)) fun x56 =>
  ltt ((x56 + s16.1)) fun x57 =>
  bnd (FX2_strengthOf G y24.1 p0 x55 x57) fun y58 =>
  some (y58.2, y58.1))) fun (y37 : Int32 × DD) =>
  some (y37.1, y37.2))) fun (y28 : Int32 × DD) =>
  ltt ((((16 : Int32)) * p1)) fun x29 =>
  ltt ((x29 + s16.1)) fun x30 =>
  ltt ((((2 : Int32)) * x30)) fun x31 =>
  ltt ((x31 + s9.1)) fun x32 =>
  dr G 13 ((y28.2.2 a 0)) fun b33 =>
  chk (¬ (x32 < 0 ∨ G.2.2 b33 ≤ x32.toNatClampNeg)) <|
  ltt (uI y28.2 b33 x32.toNatClampNeg y28.1) fun M34 =>
  ltt (s16.1 + (1 : Int32)) fun x35 =>
  some (.inl (x35, M34)))) : Option ((Int32 × DD) ⊕ (Int32 × DD)))) 1000000 ((0 : Int32), s9.2)) fun (y15 : Int32 × DD) =>
  ltt (s9.1 + (1 : Int32)) fun x18 =>
  some (.inl (x18, y15.2)))) : Option ((Int32 × DD) ⊕ (Int32 × DD)))) 1000000 ((0 : Int32), M)) fun (y8 : Int32 × DD) =>
  some y8.2
set_option maxHeartbeats 4000000 in
set_option maxRecDepth 100000 in
theorem kX2_measure (l : Launch) (D : va_G) (ct : CT) (ad : Nat → Nat) (Z : Nat → Nat) (G : GG) (M : DD) (sz : Nat) (a : Nat) (p0 : Option Nat) (p1 : Int32) (y : DD) (hc : a < G.1) (hk : G.2.1 a = 2) (hF : FX2_measure G M a p0 p1 = some y) : Met l yX2_measure wsX2_measure ({ frames := 3, cells := 0, slots := 0, locals := 78 }) (va_Pc [.ref (ad a), va_re ad p0, .int p1] (kB D ct ad Z G M sz)) (va_Qv (fun (_ : Unit) => True) (fun _ t => kE D ct ad G (wA ad G sz) y t) (wA ad G sz)) 0 0 (wA ad G sz) := by
  refine Met.ofW (cc := cX2_measure) (maxL := 14) (ret := none) (by decide) rfl ?_
  intro p e s m args below meth c s₁ B hml hv
  obtain ⟨rfl, hsz, hP, hK, hD0, hZ, hN⟩ := hv
  have hx := B.exec
  have hb := B.bytes
  have hr := B.returns
  have hts := atoms_spec (ws := wsX2_measure) B.pre
  have hown : s.vm.findClass RX2 = some m.cls := findClass_of_methodNamed B.named
  have hlocks := B.notSynchronized
  subst hsz
  have hD := wD_self (sz := s.heap.size) hD0
  have hA9 : ∀ q, s.heap.size ≤ q → wA ad G s.heap.size q := fun q h => Or.inr h
  generalize hAe : wA ad G s.heap.size = A at hD hA9 hZ ⊢
  have hS : va_S A s.heap s.heap [] := va_S.rf
  have hl := lv_entry ([.ref (ad a), va_re ad p0, .int p1]) (n := 14) (by cases p0 <;> exact Nat.le_of_ble_eq_true rfl)
  rw [lg_entry_eq]
  generalize (lg_sl ([.ref (ad a), va_re ad p0, .int p1]) ++ List.replicate (14 - (lg_sl ([.ref (ad a), va_re ad p0, .int p1])).length) Slot.unset).toArray = ls at hl ⊢
  have hl : lv_has ls 14 [(0, .ref (ad a)), (1, va_re ad p0), (2, .int p1)] := by have e9 : lv_args 0 [.ref (ad a), va_re ad p0, .int p1] = [(0, .ref (ad a)), (1, va_re ad p0), (2, .int p1)] := (by cases p0 <;> rfl); rw [e9] at hl; exact hl
  unfold FX2_measure at hF
  refine lv_aloadq_n hx hb dX2_measure_0 rfl (lv_at hl 1 rfl) ?_
  obtain ⟨b2, ho2, hc2, hk2, hF⟩ := dr_some hF
  refine W_st (st' := [.ref (ad b2)]) (by rw [va_some ho2]) ?_
  refine va_get (D := D) (ci := 9) (v := va_re ad (M.2 b2 0)) (C := RX9) (T := TX9) (N := 20) hx hb hts (by decide +kernel) hown hK hP b2 (wld_o ct ad G M hc2 hk2 (by decide)) rfl 0 (by decide) (hts (.fieldLink RX2 15 "VideoSuite$Work" "pic" "LVideoSuite$Picture;") (by decide +kernel)) (fun _ h9 => h9) rfl dX2_measure_1 ?_
  obtain ⟨b3, ho3, hc3, hk3, hF⟩ := dr_some hF
  refine W_st (st' := [.ref (ad b3)]) (by rw [va_some ho3]) ?_
  refine va_get (D := D) (ci := 4) (v := .int (M.1 b3 1)) (C := RX4) (T := TX4) (N := 18) hx hb hts (by decide +kernel) hown hK hP b3 (wld_o ct ad G M hc3 hk3 (by decide)) rfl 1 (by decide) (hts (.fieldLink RX2 49 "VideoSuite$Picture" "width" "I") (by decide +kernel)) (fun _ h9 => h9) rfl dX2_measure_4 ?_
  obtain ⟨x4, ex4, hF⟩ := ltt_some hF
  refine lv_topi (fun zx4 ezx4 => ?_)
  obtain rfl : x4 = zx4 := ex4.trans ezx4.symm
  refine lv_istore_n (lv' := [(3, .int x4), (0, .ref (ad a)), (1, va_re ad p0), (2, .int p1)]) hx hb dX2_measure_7 rfl hl (by decide) rfl (fun ls hl => ?_)
  refine lv_aloadq_n hx hb dX2_measure_8 rfl (lv_at hl 2 rfl) ?_
  refine W_st (st' := [.ref (ad b2)]) (by rw [va_some ho2]) ?_
  refine va_get (D := D) (ci := 9) (v := va_re ad (M.2 b2 10)) (C := RX9) (T := TX9) (N := 20) hx hb hts (by decide +kernel) hown hK hP b2 (wld_o ct ad G M hc2 hk2 (by decide)) rfl 10 (by decide) (hts (.fieldLink RX2 75 "VideoSuite$Work" "rule" "[I") (by decide +kernel)) (fun _ h9 => h9) rfl dX2_measure_9 ?_
  refine lv_iconst (v := (3 : Int32)) hx hb dX2_measure_12 (by decide) ?_
  refine lv_iload_n hx hb dX2_measure_13 rfl (lv_at hl 3 rfl) ?_
  refine lv_imul hx hb dX2_measure_14 ?_
  obtain ⟨x5, ex5, hF⟩ := ltt_some hF
  refine lv_topi (fun zx5 ezx5 => ?_)
  obtain rfl : x5 = zx5 := ex5.trans ezx5.symm
  obtain ⟨b6, ho6, hc6, hk6, hF⟩ := dr_some hF
  refine W_st (st' := [.int x5, .ref (ad b6)]) (by rw [va_some ho6]) ?_
  obtain ⟨hvc, hF⟩ := chk_some hF
  refine va_iald hx hb hK hP b6 1 (wld_i ct ad G M hc6 hk6) rfl hvc dX2_measure_15 ?_
  obtain ⟨x7, ex7, hF⟩ := ltt_some hF
  refine lv_topi (fun zx7 ezx7 => ?_)
  obtain rfl : x7 = zx7 := ex7.trans ezx7.symm
  refine lv_istore (lv' := [(4, .int x7), (3, .int x4), (0, .ref (ad a)), (1, va_re ad p0), (2, .int p1)]) hx hb dX2_measure_16 hl (by decide) rfl (fun ls hl => ?_)
  refine lv_iconst (v := (0 : Int32)) hx hb dX2_measure_18 (by decide) ?_
  refine lv_istore (lv' := [(5, .int (0 : Int32)), (4, .int x7), (3, .int x4), (0, .ref (ad a)), (1, va_re ad p0), (2, .int p1)]) hx hb dX2_measure_19 hl (by decide) rfl (fun ls hl => ?_)
  obtain ⟨y8, hy8, hF⟩ := bnd_some hF
  have K8 : ∀ (H : Heap) (locs : List Loc) (ls : Array Slot), va_P D classes (wld ct ad G y8.2) H → va_D A (wld ct ad G y8.2) → va_S A s.heap H locs → lv_has ls 14 [(5, .int y8.1), (4, .int x7), (3, .int x4), (0, .ref (ad a)), (1, va_re ad p0), (2, .int p1)] → W p l e (headSpec wsX2_measure ({ frames := 3, cells := 0, slots := 0, locals := 78 })).room s m ([.ref (ad a), va_re ad p0, .int p1] : List Value).toArray below meth c H locs 0 0 (MQ below (va_Qv (fun (_ : Unit) => True) (fun _ t => kE D ct ad G A y t) A) ([.ref (ad a), va_re ad p0, .int p1] : List Value).toArray s 0 0 A) (F0 m 279 ls []) := by
    intro H locs ls hP hD hS hl
    obtain rfl := Option.some.inj hF
    exact W.vret hx hb hr (fun t ht hW => ⟨⟨(), rfl, trivial, ⟨by rw [ht]; exact hP, va_K.moved hW.alike hK, hD⟩⟩, hS.F ht⟩) hS.2.2 dX2_measure_279
  clear hF
  refine itr_rule (fun (s9 : Int32 × DD) => ∀ (H : Heap) (locs : List Loc) (ls : Array Slot), va_P D classes (wld ct ad G s9.2) H → va_D A (wld ct ad G s9.2) → va_S A s.heap H locs → lv_has ls 14 [(5, .int s9.1), (4, .int x7), (3, .int x4), (0, .ref (ad a)), (1, va_re ad p0), (2, .int p1)] → W p l e (headSpec wsX2_measure ({ frames := 3, cells := 0, slots := 0, locals := 78 })).room s m ([.ref (ad a), va_re ad p0, .int p1] : List Value).toArray below meth c H locs 0 0 (MQ below (va_Qv (fun (_ : Unit) => True) (fun _ t => kE D ct ad G A y t) A) ([.ref (ad a), va_re ad p0, .int p1] : List Value).toArray s 0 0 A) (F0 m 21 ls [])) ?_ _ _ hy8 _ _ _ hP hD hS (lv_sub hl [0, 1, 2, 3, 4, 5] rfl)
  rintro s9 ⟨z11, hF, hwz11⟩ H locs ls hP hD hS hl
  try dsimp only at hF
  refine lv_iload hx hb dX2_measure_21 (lv_at hl 0 rfl) ?_
  refine lv_iconst (v := (2 : Int32)) hx hb dX2_measure_23 (by decide) ?_
  refine lv_icmp_ge (tgt := 279) hx hb dX2_measure_24 (by decide) (fun c12 => ?_) (fun c12 => ?_)
  · rw [if_pos c12] at hF
    obtain rfl := Option.some.inj hF
    subst hwz11
    exact K8 _ _ _ hP hD hS (lv_sub hl [0, 1, 2, 3, 4, 5] rfl)
  · rw [if_neg c12] at hF
    refine lv_iload hx hb dX2_measure_27 (lv_at hl 0 rfl) ?_
    obtain ⟨y13, hy13, hF⟩ := bnd_some hF
    have J13 : ∀ (H : Heap) (locs : List Loc) (ls : Array Slot), va_P D classes (wld ct ad G s9.2) H → va_D A (wld ct ad G s9.2) → va_S A s.heap H locs → lv_has ls 14 [(5, .int s9.1), (4, .int x7), (3, .int x4), (0, .ref (ad a)), (1, va_re ad p0), (2, .int p1)] → W p l e (headSpec wsX2_measure ({ frames := 3, cells := 0, slots := 0, locals := 78 })).room s m ([.ref (ad a), va_re ad p0, .int p1] : List Value).toArray below meth c H locs 0 0 (MQ below (va_Qv (fun (_ : Unit) => True) (fun _ t => kE D ct ad G A y t) A) ([.ref (ad a), va_re ad p0, .int p1] : List Value).toArray s 0 0 A) (F0 m 51 ls [.int y13]) := by
      intro H locs ls hP hD hS hl
      refine lv_istore (lv' := [(6, .int y13), (5, .int s9.1), (4, .int x7), (3, .int x4), (0, .ref (ad a)), (1, va_re ad p0), (2, .int p1)]) hx hb dX2_measure_51 hl (by decide) rfl (fun ls hl => ?_)
      refine lv_iload hx hb dX2_measure_53 (lv_at hl 0 rfl) ?_
      obtain ⟨y14, hy14, hF⟩ := bnd_some hF
      have J14 : ∀ (H : Heap) (locs : List Loc) (ls : Array Slot), va_P D classes (wld ct ad G s9.2) H → va_D A (wld ct ad G s9.2) → va_S A s.heap H locs → lv_has ls 14 [(6, .int y13), (5, .int s9.1), (4, .int x7), (3, .int x4), (0, .ref (ad a)), (1, va_re ad p0), (2, .int p1)] → W p l e (headSpec wsX2_measure ({ frames := 3, cells := 0, slots := 0, locals := 78 })).room s m ([.ref (ad a), va_re ad p0, .int p1] : List Value).toArray below meth c H locs 0 0 (MQ below (va_Qv (fun (_ : Unit) => True) (fun _ t => kE D ct ad G A y t) A) ([.ref (ad a), va_re ad p0, .int p1] : List Value).toArray s 0 0 A) (F0 m 97 ls [.int y14]) := by
        intro H locs ls hP hD hS hl
        refine lv_istore (lv' := [(7, .int y14), (6, .int y13), (5, .int s9.1), (4, .int x7), (3, .int x4), (0, .ref (ad a)), (1, va_re ad p0), (2, .int p1)]) hx hb dX2_measure_97 hl (by decide) rfl (fun ls hl => ?_)
        refine lv_iconst (v := (0 : Int32)) hx hb dX2_measure_99 (by decide) ?_
        refine lv_istore (lv' := [(8, .int (0 : Int32)), (7, .int y14), (6, .int y13), (5, .int s9.1), (4, .int x7), (3, .int x4), (0, .ref (ad a)), (1, va_re ad p0), (2, .int p1)]) hx hb dX2_measure_100 hl (by decide) rfl (fun ls hl => ?_)
        obtain ⟨y15, hy15, hF⟩ := bnd_some hF
        have K15 : ∀ (H : Heap) (locs : List Loc) (ls : Array Slot), va_P D classes (wld ct ad G y15.2) H → va_D A (wld ct ad G y15.2) → va_S A s.heap H locs → lv_has ls 14 [(8, .int y15.1), (7, .int y14), (6, .int y13), (5, .int s9.1), (4, .int x7), (3, .int x4), (0, .ref (ad a)), (1, va_re ad p0), (2, .int p1)] → W p l e (headSpec wsX2_measure ({ frames := 3, cells := 0, slots := 0, locals := 78 })).room s m ([.ref (ad a), va_re ad p0, .int p1] : List Value).toArray below meth c H locs 0 0 (MQ below (va_Qv (fun (_ : Unit) => True) (fun _ t => kE D ct ad G A y t) A) ([.ref (ad a), va_re ad p0, .int p1] : List Value).toArray s 0 0 A) (F0 m 273 ls []) := by
          intro H locs ls hP hD hS hl
          obtain ⟨x18, ex18, hF⟩ := ltt_some hF
          refine lv_iinc (v := x18) (lv' := [(5, .int x18), (8, .int y15.1), (7, .int y14), (6, .int y13), (4, .int x7), (3, .int x4), (0, .ref (ad a)), (1, va_re ad p0), (2, .int p1)]) hx hb dX2_measure_273 hl (k := 3) rfl (by rw [ex18]; rfl) (by decide) rfl (fun ls hl => ?_)
          refine lv_goto (tgt := 21) hx hb dX2_measure_276 (by decide) ?_
          obtain rfl := Option.some.inj hF
          exact hwz11 _ _ _ hP hD hS (lv_sub hl [0, 4, 5, 6, 7, 8] rfl)
        clear hF
        refine itr_rule (fun (s16 : Int32 × DD) => ∀ (H : Heap) (locs : List Loc) (ls : Array Slot), va_P D classes (wld ct ad G s16.2) H → va_D A (wld ct ad G s16.2) → va_S A s.heap H locs → lv_has ls 14 [(8, .int s16.1), (7, .int y14), (6, .int y13), (5, .int s9.1), (4, .int x7), (3, .int x4), (0, .ref (ad a)), (1, va_re ad p0), (2, .int p1)] → W p l e (headSpec wsX2_measure ({ frames := 3, cells := 0, slots := 0, locals := 78 })).room s m ([.ref (ad a), va_re ad p0, .int p1] : List Value).toArray below meth c H locs 0 0 (MQ below (va_Qv (fun (_ : Unit) => True) (fun _ t => kE D ct ad G A y t) A) ([.ref (ad a), va_re ad p0, .int p1] : List Value).toArray s 0 0 A) (F0 m 102 ls [])) ?_ _ _ hy15 _ _ _ hP hD hS (lv_sub hl [0, 1, 2, 3, 4, 5, 6, 7, 8] rfl)
        rintro s16 ⟨z19, hF, hwz19⟩ H locs ls hP hD hS hl
        try dsimp only at hF
        refine lv_iload hx hb dX2_measure_102 (lv_at hl 0 rfl) ?_
        refine lv_bipush (v := (16 : Int32)) hx hb dX2_measure_104 (by decide) ?_
        refine lv_icmp_ge (tgt := 273) hx hb dX2_measure_106 (by decide) (fun c20 => ?_) (fun c20 => ?_)
        · rw [if_pos c20] at hF
          obtain rfl := Option.some.inj hF
          subst hwz19
          exact K15 _ _ _ hP hD hS (lv_sub hl [0, 1, 2, 3, 4, 5, 6, 7, 8] rfl)
        · rw [if_neg c20] at hF
          refine lv_iload hx hb dX2_measure_109 (lv_at hl 0 rfl) ?_
          obtain ⟨y21, hy21, hF⟩ := bnd_some hF
          have hf9 := wA_in hD hA9 hS
          refine va_calli (va_runS (As := [.int s16.1]) (rest := []) ⟨hx, hb, hml, hown, hts⟩ (kX9_pieceX l D ct ad Z G s16.2 H.size s16.1 y21 hy21) (va_cwS 1 hts gX2_measure_X9_pieceX rfl rfl rfl (by decide +kernel) ⟨Nat.le_of_ble_eq_true rfl, Nat.le_of_ble_eq_true rfl⟩) ⟨fun a U g mk q => by obtain ⟨q0, q1, qP, qK, qD, qZ, qN⟩ := q; exact ⟨q0, q1, qP, va_K.moved (u := U) (U := U.calling g mk a) (Vm.Alike.refl U.vm) qK, qD, sF.moved (u := U) (U := U.calling g mk a) (Vm.Alike.refl U.vm) qZ, nF.same rfl qN⟩, fun U hU hW => ⟨rfl, by rw [hU], by rw [hU]; exact hP, va_K.moved hW.alike hK, hD.weaken (fun _ _ _ _ => trivial), by rw [hU]; exact ((hZ.kept hS.2.1).narrow hf9).moved hW.alike, hN.warm hW⟩⟩ rfl rfl hl.1 rfl (lv_room (Nat.le_of_ble_eq_true rfl)) dX2_measure_111 ⟨(Nat.zero_le _), (Nat.zero_le _)⟩) hS (fun q _ h => hf9 q h) hf9 (fun r u t H locs ht hvm hw hB hz1 hk1 hS => ?_)
          obtain ⟨hP, hK9, hD9⟩ := hB
          rw [ht] at hP
          try dsimp only at hw
          subst hw
          have hD := hD9.weaken (fun _ q _ h => hf9 q.1 h)
          refine lv_iload hx hb dX2_measure_114 (lv_at hl 3 rfl) ?_
          obtain ⟨y22, hy22, hF⟩ := bnd_some hF
          have J22 : ∀ (H : Heap) (locs : List Loc) (ls : Array Slot), va_P D classes (wld ct ad G y21.1) H → va_D A (wld ct ad G y21.1) → va_S A s.heap H locs → lv_has ls 14 [(8, .int s16.1), (7, .int y14), (6, .int y13), (5, .int s9.1), (4, .int x7), (3, .int x4), (0, .ref (ad a)), (1, va_re ad p0), (2, .int p1)] → W p l e (headSpec wsX2_measure ({ frames := 3, cells := 0, slots := 0, locals := 78 })).room s m ([.ref (ad a), va_re ad p0, .int p1] : List Value).toArray below meth c H locs 0 0 (MQ below (va_Qv (fun (_ : Unit) => True) (fun _ t => kE D ct ad G A y t) A) ([.ref (ad a), va_re ad p0, .int p1] : List Value).toArray s 0 0 A) (F0 m 124 ls [.int y22, .int y21.2]) := by
            intro H locs ls hP hD hS hl
            refine lv_isub hx hb dX2_measure_124 ?_
            obtain ⟨x23, ex23, hF⟩ := ltt_some hF
            refine lv_topi (fun zx23 ezx23 => ?_)
            obtain rfl : x23 = zx23 := ex23.trans ezx23.symm
            refine lv_istore (lv' := [(9, .int x23), (8, .int s16.1), (7, .int y14), (6, .int y13), (5, .int s9.1), (4, .int x7), (3, .int x4), (0, .ref (ad a)), (1, va_re ad p0), (2, .int p1)]) hx hb dX2_measure_125 hl (by decide) rfl (fun ls hl => ?_)
            refine lv_iload hx hb dX2_measure_127 (lv_at hl 1 rfl) ?_
            obtain ⟨y24, hy24, hF⟩ := bnd_some hF
            have hf9 := wA_in hD hA9 hS
            refine va_calli (va_runS (As := [.int s16.1]) (rest := []) ⟨hx, hb, hml, hown, hts⟩ (kX9_pieceY l D ct ad Z G y21.1 H.size s16.1 y24 hy24) (va_cwS 1 hts gX2_measure_X9_pieceY rfl rfl rfl (by decide +kernel) ⟨Nat.le_of_ble_eq_true rfl, Nat.le_of_ble_eq_true rfl⟩) ⟨fun a U g mk q => by obtain ⟨q0, q1, qP, qK, qD, qZ, qN⟩ := q; exact ⟨q0, q1, qP, va_K.moved (u := U) (U := U.calling g mk a) (Vm.Alike.refl U.vm) qK, qD, sF.moved (u := U) (U := U.calling g mk a) (Vm.Alike.refl U.vm) qZ, nF.same rfl qN⟩, fun U hU hW => ⟨rfl, by rw [hU], by rw [hU]; exact hP, va_K.moved hW.alike hK, hD.weaken (fun _ _ _ _ => trivial), by rw [hU]; exact ((hZ.kept hS.2.1).narrow hf9).moved hW.alike, hN.warm hW⟩⟩ rfl rfl hl.1 rfl (lv_room (Nat.le_of_ble_eq_true rfl)) dX2_measure_129 ⟨(Nat.zero_le _), (Nat.zero_le _)⟩) hS (fun q _ h => hf9 q h) hf9 (fun r u t H locs ht hvm hw hB hz1 hk1 hS => ?_)
            obtain ⟨hP, hK9, hD9⟩ := hB
            rw [ht] at hP
            try dsimp only at hw
            subst hw
            have hD := hD9.weaken (fun _ q _ h => hf9 q.1 h)
            refine lv_iload hx hb dX2_measure_132 (lv_at hl 4 rfl) ?_
            refine lv_iconst (v := (1 : Int32)) hx hb dX2_measure_134 (by decide) ?_
            obtain ⟨y25, hy25, hF⟩ := bnd_some hF
            have J25 : ∀ (H : Heap) (locs : List Loc) (ls : Array Slot), va_P D classes (wld ct ad G y24.1) H → va_D A (wld ct ad G y24.1) → va_S A s.heap H locs → lv_has ls 14 [(9, .int x23), (8, .int s16.1), (7, .int y14), (6, .int y13), (5, .int s9.1), (4, .int x7), (3, .int x4), (0, .ref (ad a)), (1, va_re ad p0), (2, .int p1)] → W p l e (headSpec wsX2_measure ({ frames := 3, cells := 0, slots := 0, locals := 78 })).room s m ([.ref (ad a), va_re ad p0, .int p1] : List Value).toArray below meth c H locs 0 0 (MQ below (va_Qv (fun (_ : Unit) => True) (fun _ t => kE D ct ad G A y t) A) ([.ref (ad a), va_re ad p0, .int p1] : List Value).toArray s 0 0 A) (F0 m 143 ls [.int y25, .int y24.2]) := by
              intro H locs ls hP hD hS hl
              refine lv_isub hx hb dX2_measure_143 ?_
              obtain ⟨x26, ex26, hF⟩ := ltt_some hF
              refine lv_topi (fun zx26 ezx26 => ?_)
              obtain rfl : x26 = zx26 := ex26.trans ezx26.symm
              refine lv_istore (lv' := [(10, .int x26), (9, .int x23), (8, .int s16.1), (7, .int y14), (6, .int y13), (5, .int s9.1), (4, .int x7), (3, .int x4), (0, .ref (ad a)), (1, va_re ad p0), (2, .int p1)]) hx hb dX2_measure_144 hl (by decide) rfl (fun ls hl => ?_)
              refine lv_iload hx hb dX2_measure_146 (lv_at hl 1 rfl) ?_
              obtain ⟨y27, hy27, hF⟩ := bnd_some hF
              have J27 : ∀ (H : Heap) (locs : List Loc) (ls : Array Slot), va_P D classes (wld ct ad G y24.1) H → va_D A (wld ct ad G y24.1) → va_S A s.heap H locs → lv_has ls 14 [(10, .int x26), (9, .int x23), (8, .int s16.1), (7, .int y14), (6, .int y13), (5, .int s9.1), (4, .int x7), (3, .int x4), (0, .ref (ad a)), (1, va_re ad p0), (2, .int p1)] → W p l e (headSpec wsX2_measure ({ frames := 3, cells := 0, slots := 0, locals := 78 })).room s m ([.ref (ad a), va_re ad p0, .int p1] : List Value).toArray below meth c H locs 0 0 (MQ below (va_Qv (fun (_ : Unit) => True) (fun _ t => kE D ct ad G A y t) A) ([.ref (ad a), va_re ad p0, .int p1] : List Value).toArray s 0 0 A) (F0 m 161 ls [.int y27]) := by
                intro H locs ls hP hD hS hl
                refine lv_istore (lv' := [(11, .int y27), (10, .int x26), (9, .int x23), (8, .int s16.1), (7, .int y14), (6, .int y13), (5, .int s9.1), (4, .int x7), (3, .int x4), (0, .ref (ad a)), (1, va_re ad p0), (2, .int p1)]) hx hb dX2_measure_161 hl (by decide) rfl (fun ls hl => ?_)
                refine lv_iconst (v := (0 : Int32)) hx hb dX2_measure_163 (by decide) ?_
                refine lv_istore (lv' := [(12, .int (0 : Int32)), (11, .int y27), (10, .int x26), (9, .int x23), (8, .int s16.1), (7, .int y14), (6, .int y13), (5, .int s9.1), (4, .int x7), (3, .int x4), (0, .ref (ad a)), (1, va_re ad p0), (2, .int p1)]) hx hb dX2_measure_164 hl (by decide) rfl (fun ls hl => ?_)
                refine lv_iload hx hb dX2_measure_166 (lv_at hl 8 rfl) ?_
                refine lv_iconst (v := (1 : Int32)) hx hb dX2_measure_168 (by decide) ?_
                obtain ⟨y28, hy28, hF⟩ := bnd_some hF
                have J28 : ∀ (H : Heap) (locs : List Loc) (ls : Array Slot), va_P D classes (wld ct ad G y28.2) H → va_D A (wld ct ad G y28.2) → va_S A s.heap H locs → lv_has ls 14 [(12, .int y28.1), (11, .int y27), (10, .int x26), (9, .int x23), (8, .int s16.1), (7, .int y14), (6, .int y13), (5, .int s9.1), (4, .int x7), (3, .int x4), (0, .ref (ad a)), (1, va_re ad p0), (2, .int p1)] → W p l e (headSpec wsX2_measure ({ frames := 3, cells := 0, slots := 0, locals := 78 })).room s m ([.ref (ad a), va_re ad p0, .int p1] : List Value).toArray below meth c H locs 0 0 (MQ below (va_Qv (fun (_ : Unit) => True) (fun _ t => kE D ct ad G A y t) A) ([.ref (ad a), va_re ad p0, .int p1] : List Value).toArray s 0 0 A) (F0 m 248 ls []) := by
                  intro H locs ls hP hD hS hl
                  refine lv_aload_n hx hb dX2_measure_248 rfl (lv_at hl 10 rfl) ?_
                  refine va_get (D := D) (ci := 2) (v := va_re ad (y28.2.2 a 0)) (C := RX2) (T := TX2) (N := 7) hx hb hts (by decide +kernel) hown hK hP a (wld_o ct ad G y28.2 hc hk (by decide)) rfl 0 (by decide) (hts (.fieldLink RX2 9 "VideoSuite$Edges" "strength" "[I") (by decide +kernel)) (fun _ h9 => h9) rfl dX2_measure_249 ?_
                  refine lv_iconst (v := (2 : Int32)) hx hb dX2_measure_252 (by decide) ?_
                  refine lv_bipush (v := (16 : Int32)) hx hb dX2_measure_253 (by decide) ?_
                  refine lv_iload_n hx hb dX2_measure_255 rfl (lv_at hl 12 rfl) ?_
                  refine lv_imul hx hb dX2_measure_256 ?_
                  obtain ⟨x29, ex29, hF⟩ := ltt_some hF
                  refine lv_topi (fun zx29 ezx29 => ?_)
                  obtain rfl : x29 = zx29 := ex29.trans ezx29.symm
                  refine lv_iload hx hb dX2_measure_257 (lv_at hl 4 rfl) ?_
                  refine lv_iadd hx hb dX2_measure_259 ?_
                  obtain ⟨x30, ex30, hF⟩ := ltt_some hF
                  refine lv_topi (fun zx30 ezx30 => ?_)
                  obtain rfl : x30 = zx30 := ex30.trans ezx30.symm
                  refine lv_imul hx hb dX2_measure_260 ?_
                  obtain ⟨x31, ex31, hF⟩ := ltt_some hF
                  refine lv_topi (fun zx31 ezx31 => ?_)
                  obtain rfl : x31 = zx31 := ex31.trans ezx31.symm
                  refine lv_iload hx hb dX2_measure_261 (lv_at hl 7 rfl) ?_
                  refine lv_iadd hx hb dX2_measure_263 ?_
                  obtain ⟨x32, ex32, hF⟩ := ltt_some hF
                  refine lv_topi (fun zx32 ezx32 => ?_)
                  obtain rfl : x32 = zx32 := ex32.trans ezx32.symm
                  refine lv_iload hx hb dX2_measure_264 (lv_at hl 0 rfl) ?_
                  obtain ⟨b33, ho33, hc33, hk33, hF⟩ := dr_some hF
                  refine W_st (st' := [.int y28.1, .int x32, .ref (ad b33)]) (by rw [va_some ho33]) ?_
                  obtain ⟨hvc, hF⟩ := chk_some hF
                  refine va_iast hx hb hK hP hD hS b33 1 (wld_i ct ad G y28.2 hc33 hk33) rfl hvc dX2_measure_266 (fun H locs hP hD hS => ?_)
                  obtain ⟨M34, eM34, hF⟩ := ltt_some hF
                  rw [set_i ct ad G y28.2 hc33 hk33, ← eM34] at hP hD
                  obtain ⟨x35, ex35, hF⟩ := ltt_some hF
                  refine lv_iinc (v := x35) (lv' := [(8, .int x35), (12, .int y28.1), (11, .int y27), (10, .int x26), (9, .int x23), (7, .int y14), (6, .int y13), (5, .int s9.1), (4, .int x7), (3, .int x4), (0, .ref (ad a)), (1, va_re ad p0), (2, .int p1)]) hx hb dX2_measure_267 hl (k := 4) rfl (by rw [ex35]; rfl) (by decide) rfl (fun ls hl => ?_)
                  refine lv_goto (tgt := 102) hx hb dX2_measure_270 (by decide) ?_
                  obtain rfl := Option.some.inj hF
                  exact hwz19 _ _ _ hP hD hS (lv_sub hl [0, 5, 6, 7, 8, 9, 10, 11, 12] rfl)
                clear hF
                have hF := hy28
                clear hy28
                refine lv_icmp_eq (tgt := 248) hx hb dX2_measure_169 (by decide) (fun c36 => ?_) (fun c36 => ?_)
                · rw [if_pos c36] at hF
                  obtain rfl := Option.some.inj hF
                  exact J28 _ _ _ hP hD hS (lv_sub hl [0, 1, 2, 3, 4, 5, 6, 7, 8, 9, 10, 11, 12] rfl)
                · rw [if_neg c36] at hF
                  refine lv_iload hx hb dX2_measure_172 (lv_at hl 1 rfl) ?_
                  obtain ⟨y37, hy37, hF⟩ := bnd_some hF
                  have J37 : ∀ (H : Heap) (locs : List Loc) (ls : Array Slot), va_P D classes (wld ct ad G y37.2) H → va_D A (wld ct ad G y37.2) → va_S A s.heap H locs → lv_has ls 14 [(12, .int y37.1), (11, .int y27), (10, .int x26), (9, .int x23), (8, .int s16.1), (7, .int y14), (6, .int y13), (5, .int s9.1), (4, .int x7), (3, .int x4), (0, .ref (ad a)), (1, va_re ad p0), (2, .int p1)] → W p l e (headSpec wsX2_measure ({ frames := 3, cells := 0, slots := 0, locals := 78 })).room s m ([.ref (ad a), va_re ad p0, .int p1] : List Value).toArray below meth c H locs 0 0 (MQ below (va_Qv (fun (_ : Unit) => True) (fun _ t => kE D ct ad G A y t) A) ([.ref (ad a), va_re ad p0, .int p1] : List Value).toArray s 0 0 A) (F0 m 248 ls []) := by
                    intro H locs ls hP hD hS hl
                    obtain rfl := Option.some.inj hF
                    exact J28 _ _ _ hP hD hS (lv_sub hl [0, 1, 2, 3, 4, 5, 6, 7, 8, 9, 10, 11, 12] rfl)
                  clear hF
                  have hF := hy37
                  clear hy37
                  refine lv_if_ne (tgt := 182) hx hb dX2_measure_174 (by decide) (fun c38 => ?_) (fun c38 => ?_)
                  · rw [if_neg c38] at hF
                    refine lv_iload hx hb dX2_measure_182 (lv_at hl 2 rfl) ?_
                    refine lv_iconst (v := (3 : Int32)) hx hb dX2_measure_184 (by decide) ?_
                    refine lv_ishr hx hb dX2_measure_185 ?_
                    obtain ⟨x39, ex39, hF⟩ := ltt_some hF
                    refine lv_topi (fun zx39 ezx39 => ?_)
                    obtain rfl : x39 = zx39 := ex39.trans ezx39.symm
                    refine lv_iconst (v := (1 : Int32)) hx hb dX2_measure_186 (by decide) ?_
                    refine lv_iand hx hb dX2_measure_187 ?_
                    obtain ⟨x40, ex40, hF⟩ := ltt_some hF
                    refine lv_topi (fun zx40 ezx40 => ?_)
                    obtain rfl : x40 = zx40 := ex40.trans ezx40.symm
                    refine lv_bipush (v := (8 : Int32)) hx hb dX2_measure_188 (by decide) ?_
                    refine lv_imul hx hb dX2_measure_190 ?_
                    obtain ⟨x41, ex41, hF⟩ := ltt_some hF
                    refine lv_topi (fun zx41 ezx41 => ?_)
                    obtain rfl : x41 = zx41 := ex41.trans ezx41.symm
                    refine lv_iload hx hb dX2_measure_191 (lv_at hl 3 rfl) ?_
                    refine lv_iconst (v := (3 : Int32)) hx hb dX2_measure_193 (by decide) ?_
                    refine lv_ishr hx hb dX2_measure_194 ?_
                    obtain ⟨x42, ex42, hF⟩ := ltt_some hF
                    refine lv_topi (fun zx42 ezx42 => ?_)
                    obtain rfl : x42 = zx42 := ex42.trans ezx42.symm
                    refine lv_iconst (v := (1 : Int32)) hx hb dX2_measure_195 (by decide) ?_
                    refine lv_iand hx hb dX2_measure_196 ?_
                    obtain ⟨x43, ex43, hF⟩ := ltt_some hF
                    refine lv_topi (fun zx43 ezx43 => ?_)
                    obtain rfl : x43 = zx43 := ex43.trans ezx43.symm
                    refine lv_iconst (v := (4 : Int32)) hx hb dX2_measure_197 (by decide) ?_
                    refine lv_imul hx hb dX2_measure_198 ?_
                    obtain ⟨x44, ex44, hF⟩ := ltt_some hF
                    refine lv_topi (fun zx44 ezx44 => ?_)
                    obtain rfl : x44 = zx44 := ex44.trans ezx44.symm
                    refine lv_iadd hx hb dX2_measure_199 ?_
                    obtain ⟨x45, ex45, hF⟩ := ltt_some hF
                    refine lv_topi (fun zx45 ezx45 => ?_)
                    obtain rfl : x45 = zx45 := ex45.trans ezx45.symm
                    refine lv_iload hx hb dX2_measure_200 (lv_at hl 2 rfl) ?_
                    refine lv_iconst (v := (2 : Int32)) hx hb dX2_measure_202 (by decide) ?_
                    refine lv_ishr hx hb dX2_measure_203 ?_
                    obtain ⟨x46, ex46, hF⟩ := ltt_some hF
                    refine lv_topi (fun zx46 ezx46 => ?_)
                    obtain rfl : x46 = zx46 := ex46.trans ezx46.symm
                    refine lv_iconst (v := (1 : Int32)) hx hb dX2_measure_204 (by decide) ?_
                    refine lv_iand hx hb dX2_measure_205 ?_
                    obtain ⟨x47, ex47, hF⟩ := ltt_some hF
                    refine lv_topi (fun zx47 ezx47 => ?_)
                    obtain rfl : x47 = zx47 := ex47.trans ezx47.symm
                    refine lv_iconst (v := (2 : Int32)) hx hb dX2_measure_206 (by decide) ?_
                    refine lv_imul hx hb dX2_measure_207 ?_
                    obtain ⟨x48, ex48, hF⟩ := ltt_some hF
                    refine lv_topi (fun zx48 ezx48 => ?_)
                    obtain rfl : x48 = zx48 := ex48.trans ezx48.symm
                    refine lv_iadd hx hb dX2_measure_208 ?_
                    obtain ⟨x49, ex49, hF⟩ := ltt_some hF
                    refine lv_topi (fun zx49 ezx49 => ?_)
                    obtain rfl : x49 = zx49 := ex49.trans ezx49.symm
                    refine lv_iload hx hb dX2_measure_209 (lv_at hl 3 rfl) ?_
                    refine lv_iconst (v := (2 : Int32)) hx hb dX2_measure_211 (by decide) ?_
                    refine lv_ishr hx hb dX2_measure_212 ?_
                    obtain ⟨x50, ex50, hF⟩ := ltt_some hF
                    refine lv_topi (fun zx50 ezx50 => ?_)
                    obtain rfl : x50 = zx50 := ex50.trans ezx50.symm
                    refine lv_iconst (v := (1 : Int32)) hx hb dX2_measure_213 (by decide) ?_
                    refine lv_iand hx hb dX2_measure_214 ?_
                    obtain ⟨x51, ex51, hF⟩ := ltt_some hF
                    refine lv_topi (fun zx51 ezx51 => ?_)
                    obtain rfl : x51 = zx51 := ex51.trans ezx51.symm
                    refine lv_iadd hx hb dX2_measure_215 ?_
                    obtain ⟨x52, ex52, hF⟩ := ltt_some hF
                    refine lv_topi (fun zx52 ezx52 => ?_)
                    obtain rfl : x52 = zx52 := ex52.trans ezx52.symm
                    refine lv_istore (lv' := [(13, .int x52), (12, .int (0 : Int32)), (11, .int y27), (10, .int x26), (9, .int x23), (8, .int s16.1), (7, .int y14), (6, .int y13), (5, .int s9.1), (4, .int x7), (3, .int x4), (0, .ref (ad a)), (1, va_re ad p0), (2, .int p1)]) hx hb dX2_measure_216 hl (by decide) rfl (fun ls hl => ?_)
                    refine lv_aloadq_n hx hb dX2_measure_218 rfl (lv_at hl 12 rfl) ?_
                    refine lv_bipush (v := (16 : Int32)) hx hb dX2_measure_219 (by decide) ?_
                    refine lv_iload hx hb dX2_measure_221 (lv_at hl 2 rfl) ?_
                    obtain ⟨y53, hy53, hF⟩ := bnd_some hF
                    have J53 : ∀ (H : Heap) (locs : List Loc) (ls : Array Slot), va_P D classes (wld ct ad G y24.1) H → va_D A (wld ct ad G y24.1) → va_S A s.heap H locs → lv_has ls 14 [(13, .int x52), (12, .int (0 : Int32)), (11, .int y27), (10, .int x26), (9, .int x23), (8, .int s16.1), (7, .int y14), (6, .int y13), (5, .int s9.1), (4, .int x7), (3, .int x4), (0, .ref (ad a)), (1, va_re ad p0), (2, .int p1)] → W p l e (headSpec wsX2_measure ({ frames := 3, cells := 0, slots := 0, locals := 78 })).room s m ([.ref (ad a), va_re ad p0, .int p1] : List Value).toArray below meth c H locs 0 0 (MQ below (va_Qv (fun (_ : Unit) => True) (fun _ t => kE D ct ad G A y t) A) ([.ref (ad a), va_re ad p0, .int p1] : List Value).toArray s 0 0 A) (F0 m 232 ls [.int y53, .int (16 : Int32), va_re ad p0]) := by
                      intro H locs ls hP hD hS hl
                      refine lv_imul hx hb dX2_measure_232 ?_
                      obtain ⟨x54, ex54, hF⟩ := ltt_some hF
                      refine lv_topi (fun zx54 ezx54 => ?_)
                      obtain rfl : x54 = zx54 := ex54.trans ezx54.symm
                      refine lv_iload hx hb dX2_measure_233 (lv_at hl 0 rfl) ?_
                      refine lv_iadd hx hb dX2_measure_235 ?_
                      obtain ⟨x55, ex55, hF⟩ := ltt_some hF
                      refine lv_topi (fun zx55 ezx55 => ?_)
                      obtain rfl : x55 = zx55 := ex55.trans ezx55.symm
                      refine lv_bipush (v := (16 : Int32)) hx hb dX2_measure_236 (by decide) ?_
                      refine lv_iload_n hx hb dX2_measure_238 rfl (lv_at hl 13 rfl) ?_
                      refine lv_imul hx hb dX2_measure_239 ?_
                      obtain ⟨x56, ex56, hF⟩ := ltt_some hF
                      refine lv_topi (fun zx56 ezx56 => ?_)
                      obtain rfl : x56 = zx56 := ex56.trans ezx56.symm
                      refine lv_iload hx hb dX2_measure_240 (lv_at hl 5 rfl) ?_
                      refine lv_iadd hx hb dX2_measure_242 ?_
                      obtain ⟨x57, ex57, hF⟩ := ltt_some hF
                      refine lv_topi (fun zx57 ezx57 => ?_)
                      obtain rfl : x57 = zx57 := ex57.trans ezx57.symm
                      obtain ⟨y58, hy58, hF⟩ := bnd_some hF
                      have hf9 := wA_in hD hA9 hS
                      refine va_calli (va_runS (As := [va_re ad p0, .int x55, .int x57]) (rest := []) ⟨hx, hb, hml, hown, hts⟩ (kX2_strengthOf l D ct ad Z G y24.1 H.size p0 x55 x57 y58 hy58) (va_cwS 3 hts gX2_measure_X2_strengthOf rfl rfl rfl (by decide +kernel) ⟨Nat.le_of_ble_eq_true rfl, Nat.le_of_ble_eq_true rfl⟩) ⟨fun a U g mk q => by obtain ⟨q0, q1, qP, qK, qD, qZ, qN⟩ := q; exact ⟨q0, q1, qP, va_K.moved (u := U) (U := U.calling g mk a) (Vm.Alike.refl U.vm) qK, qD, sF.moved (u := U) (U := U.calling g mk a) (Vm.Alike.refl U.vm) qZ, nF.same rfl qN⟩, fun U hU hW => ⟨rfl, by rw [hU], by rw [hU]; exact hP, va_K.moved hW.alike hK, hD.weaken (fun _ _ _ _ => trivial), by rw [hU]; exact ((hZ.kept hS.2.1).narrow hf9).moved hW.alike, hN.warm hW⟩⟩ rfl rfl hl.1 rfl (lv_room (Nat.le_of_ble_eq_true rfl)) dX2_measure_243 ⟨(Nat.zero_le _), (Nat.zero_le _)⟩) hS (fun q _ h => hf9 q h) hf9 (fun r u t H locs ht hvm hw hB hz1 hk1 hS => ?_)
                      obtain ⟨hP, hK9, hD9⟩ := hB
                      rw [ht] at hP
                      try dsimp only at hw
                      subst hw
                      have hD := hD9.weaken (fun _ q _ h => hf9 q.1 h)
                      refine lv_istore (lv' := [(12, .int y58.2), (13, .int x52), (11, .int y27), (10, .int x26), (9, .int x23), (8, .int s16.1), (7, .int y14), (6, .int y13), (5, .int s9.1), (4, .int x7), (3, .int x4), (0, .ref (ad a)), (1, va_re ad p0), (2, .int p1)]) hx hb dX2_measure_246 hl (by decide) rfl (fun ls hl => ?_)
                      obtain rfl := Option.some.inj hF
                      exact J37 _ _ _ hP hD hS (lv_sub hl [0, 2, 3, 4, 5, 6, 7, 8, 9, 10, 11, 12, 13] rfl)
                    clear hF
                    have hF := hy53
                    clear hy53
                    refine lv_if_eq (tgt := 230) hx hb dX2_measure_223 (by decide) (fun c59 => ?_) (fun c59 => ?_)
                    · rw [if_pos c59] at hF
                      refine lv_iload hx hb dX2_measure_230 (lv_at hl 7 rfl) ?_
                      obtain rfl := Option.some.inj hF
                      exact J53 _ _ _ hP hD hS (lv_sub hl [0, 1, 2, 3, 4, 5, 6, 7, 8, 9, 10, 11, 12, 13] rfl)
                    · rw [if_neg c59] at hF
                      refine lv_iload_n hx hb dX2_measure_226 rfl (lv_at hl 13 rfl) ?_
                      refine lv_goto (tgt := 232) hx hb dX2_measure_227 (by decide) ?_
                      obtain rfl := Option.some.inj hF
                      exact J53 _ _ _ hP hD hS (lv_sub hl [0, 1, 2, 3, 4, 5, 6, 7, 8, 9, 10, 11, 12, 13] rfl)
                  · rw [if_pos c38] at hF
                    refine lv_iload hx hb dX2_measure_177 (lv_at hl 5 rfl) ?_
                    obtain ⟨y60, hy60, hF⟩ := bnd_some hF
                    have J60 : ∀ (H : Heap) (locs : List Loc) (ls : Array Slot), va_P D classes (wld ct ad G y60.2) H → va_D A (wld ct ad G y60.2) → va_S A s.heap H locs → lv_has ls 14 [(12, .int y60.1), (11, .int y27), (10, .int x26), (9, .int x23), (8, .int s16.1), (7, .int y14), (6, .int y13), (5, .int s9.1), (4, .int x7), (3, .int x4), (0, .ref (ad a)), (1, va_re ad p0), (2, .int p1)] → W p l e (headSpec wsX2_measure ({ frames := 3, cells := 0, slots := 0, locals := 78 })).room s m ([.ref (ad a), va_re ad p0, .int p1] : List Value).toArray below meth c H locs 0 0 (MQ below (va_Qv (fun (_ : Unit) => True) (fun _ t => kE D ct ad G A y t) A) ([.ref (ad a), va_re ad p0, .int p1] : List Value).toArray s 0 0 A) (F0 m 248 ls []) := by
                      intro H locs ls hP hD hS hl
                      obtain rfl := Option.some.inj hF
                      exact J37 _ _ _ hP hD hS (lv_sub hl [0, 1, 2, 3, 4, 5, 6, 7, 8, 9, 10, 11, 12] rfl)
                    clear hF
                    have hF := hy60
                    clear hy60
                    refine lv_if_eq (tgt := 248) hx hb dX2_measure_179 (by decide) (fun c61 => ?_) (fun c61 => ?_)
                    · rw [if_pos c61] at hF
                      obtain rfl := Option.some.inj hF
                      exact J60 _ _ _ hP hD hS (lv_sub hl [0, 1, 2, 3, 4, 5, 6, 7, 8, 9, 10, 11, 12] rfl)
                    · rw [if_neg c61] at hF
                      refine lv_iload hx hb dX2_measure_182 (lv_at hl 2 rfl) ?_
                      refine lv_iconst (v := (3 : Int32)) hx hb dX2_measure_184 (by decide) ?_
                      refine lv_ishr hx hb dX2_measure_185 ?_
                      obtain ⟨x62, ex62, hF⟩ := ltt_some hF
                      refine lv_topi (fun zx62 ezx62 => ?_)
                      obtain rfl : x62 = zx62 := ex62.trans ezx62.symm
                      refine lv_iconst (v := (1 : Int32)) hx hb dX2_measure_186 (by decide) ?_
                      refine lv_iand hx hb dX2_measure_187 ?_
                      obtain ⟨x63, ex63, hF⟩ := ltt_some hF
                      refine lv_topi (fun zx63 ezx63 => ?_)
                      obtain rfl : x63 = zx63 := ex63.trans ezx63.symm
                      refine lv_bipush (v := (8 : Int32)) hx hb dX2_measure_188 (by decide) ?_
                      refine lv_imul hx hb dX2_measure_190 ?_
                      obtain ⟨x64, ex64, hF⟩ := ltt_some hF
                      refine lv_topi (fun zx64 ezx64 => ?_)
                      obtain rfl : x64 = zx64 := ex64.trans ezx64.symm
                      refine lv_iload hx hb dX2_measure_191 (lv_at hl 3 rfl) ?_
                      refine lv_iconst (v := (3 : Int32)) hx hb dX2_measure_193 (by decide) ?_
                      refine lv_ishr hx hb dX2_measure_194 ?_
                      obtain ⟨x65, ex65, hF⟩ := ltt_some hF
                      refine lv_topi (fun zx65 ezx65 => ?_)
                      obtain rfl : x65 = zx65 := ex65.trans ezx65.symm
                      refine lv_iconst (v := (1 : Int32)) hx hb dX2_measure_195 (by decide) ?_
                      refine lv_iand hx hb dX2_measure_196 ?_
                      obtain ⟨x66, ex66, hF⟩ := ltt_some hF
                      refine lv_topi (fun zx66 ezx66 => ?_)
                      obtain rfl : x66 = zx66 := ex66.trans ezx66.symm
                      refine lv_iconst (v := (4 : Int32)) hx hb dX2_measure_197 (by decide) ?_
                      refine lv_imul hx hb dX2_measure_198 ?_
                      obtain ⟨x67, ex67, hF⟩ := ltt_some hF
                      refine lv_topi (fun zx67 ezx67 => ?_)
                      obtain rfl : x67 = zx67 := ex67.trans ezx67.symm
                      refine lv_iadd hx hb dX2_measure_199 ?_
                      obtain ⟨x68, ex68, hF⟩ := ltt_some hF
                      refine lv_topi (fun zx68 ezx68 => ?_)
                      obtain rfl : x68 = zx68 := ex68.trans ezx68.symm
                      refine lv_iload hx hb dX2_measure_200 (lv_at hl 2 rfl) ?_
                      refine lv_iconst (v := (2 : Int32)) hx hb dX2_measure_202 (by decide) ?_
                      refine lv_ishr hx hb dX2_measure_203 ?_
                      obtain ⟨x69, ex69, hF⟩ := ltt_some hF
                      refine lv_topi (fun zx69 ezx69 => ?_)
                      obtain rfl : x69 = zx69 := ex69.trans ezx69.symm
                      refine lv_iconst (v := (1 : Int32)) hx hb dX2_measure_204 (by decide) ?_
                      refine lv_iand hx hb dX2_measure_205 ?_
                      obtain ⟨x70, ex70, hF⟩ := ltt_some hF
                      refine lv_topi (fun zx70 ezx70 => ?_)
                      obtain rfl : x70 = zx70 := ex70.trans ezx70.symm
                      refine lv_iconst (v := (2 : Int32)) hx hb dX2_measure_206 (by decide) ?_
                      refine lv_imul hx hb dX2_measure_207 ?_
                      obtain ⟨x71, ex71, hF⟩ := ltt_some hF
                      refine lv_topi (fun zx71 ezx71 => ?_)
                      obtain rfl : x71 = zx71 := ex71.trans ezx71.symm
                      refine lv_iadd hx hb dX2_measure_208 ?_
                      obtain ⟨x72, ex72, hF⟩ := ltt_some hF
                      refine lv_topi (fun zx72 ezx72 => ?_)
                      obtain rfl : x72 = zx72 := ex72.trans ezx72.symm
                      refine lv_iload hx hb dX2_measure_209 (lv_at hl 3 rfl) ?_
                      refine lv_iconst (v := (2 : Int32)) hx hb dX2_measure_211 (by decide) ?_
                      refine lv_ishr hx hb dX2_measure_212 ?_
                      obtain ⟨x73, ex73, hF⟩ := ltt_some hF
                      refine lv_topi (fun zx73 ezx73 => ?_)
                      obtain rfl : x73 = zx73 := ex73.trans ezx73.symm
                      refine lv_iconst (v := (1 : Int32)) hx hb dX2_measure_213 (by decide) ?_
                      refine lv_iand hx hb dX2_measure_214 ?_
                      obtain ⟨x74, ex74, hF⟩ := ltt_some hF
                      refine lv_topi (fun zx74 ezx74 => ?_)
                      obtain rfl : x74 = zx74 := ex74.trans ezx74.symm
                      refine lv_iadd hx hb dX2_measure_215 ?_
                      obtain ⟨x75, ex75, hF⟩ := ltt_some hF
                      refine lv_topi (fun zx75 ezx75 => ?_)
                      obtain rfl : x75 = zx75 := ex75.trans ezx75.symm
                      refine lv_istore (lv' := [(13, .int x75), (12, .int (0 : Int32)), (11, .int y27), (10, .int x26), (9, .int x23), (8, .int s16.1), (7, .int y14), (6, .int y13), (5, .int s9.1), (4, .int x7), (3, .int x4), (0, .ref (ad a)), (1, va_re ad p0), (2, .int p1)]) hx hb dX2_measure_216 hl (by decide) rfl (fun ls hl => ?_)
                      refine lv_aloadq_n hx hb dX2_measure_218 rfl (lv_at hl 12 rfl) ?_
                      refine lv_bipush (v := (16 : Int32)) hx hb dX2_measure_219 (by decide) ?_
                      refine lv_iload hx hb dX2_measure_221 (lv_at hl 2 rfl) ?_
                      obtain ⟨y76, hy76, hF⟩ := bnd_some hF
                      have J76 : ∀ (H : Heap) (locs : List Loc) (ls : Array Slot), va_P D classes (wld ct ad G y24.1) H → va_D A (wld ct ad G y24.1) → va_S A s.heap H locs → lv_has ls 14 [(13, .int x75), (12, .int (0 : Int32)), (11, .int y27), (10, .int x26), (9, .int x23), (8, .int s16.1), (7, .int y14), (6, .int y13), (5, .int s9.1), (4, .int x7), (3, .int x4), (0, .ref (ad a)), (1, va_re ad p0), (2, .int p1)] → W p l e (headSpec wsX2_measure ({ frames := 3, cells := 0, slots := 0, locals := 78 })).room s m ([.ref (ad a), va_re ad p0, .int p1] : List Value).toArray below meth c H locs 0 0 (MQ below (va_Qv (fun (_ : Unit) => True) (fun _ t => kE D ct ad G A y t) A) ([.ref (ad a), va_re ad p0, .int p1] : List Value).toArray s 0 0 A) (F0 m 232 ls [.int y76, .int (16 : Int32), va_re ad p0]) := by
                        intro H locs ls hP hD hS hl
                        refine lv_imul hx hb dX2_measure_232 ?_
                        obtain ⟨x77, ex77, hF⟩ := ltt_some hF
                        refine lv_topi (fun zx77 ezx77 => ?_)
                        obtain rfl : x77 = zx77 := ex77.trans ezx77.symm
                        refine lv_iload hx hb dX2_measure_233 (lv_at hl 0 rfl) ?_
                        refine lv_iadd hx hb dX2_measure_235 ?_
                        obtain ⟨x78, ex78, hF⟩ := ltt_some hF
                        refine lv_topi (fun zx78 ezx78 => ?_)
                        obtain rfl : x78 = zx78 := ex78.trans ezx78.symm
                        refine lv_bipush (v := (16 : Int32)) hx hb dX2_measure_236 (by decide) ?_
                        refine lv_iload_n hx hb dX2_measure_238 rfl (lv_at hl 13 rfl) ?_
                        refine lv_imul hx hb dX2_measure_239 ?_
                        obtain ⟨x79, ex79, hF⟩ := ltt_some hF
                        refine lv_topi (fun zx79 ezx79 => ?_)
                        obtain rfl : x79 = zx79 := ex79.trans ezx79.symm
                        refine lv_iload hx hb dX2_measure_240 (lv_at hl 5 rfl) ?_
                        refine lv_iadd hx hb dX2_measure_242 ?_
                        obtain ⟨x80, ex80, hF⟩ := ltt_some hF
                        refine lv_topi (fun zx80 ezx80 => ?_)
                        obtain rfl : x80 = zx80 := ex80.trans ezx80.symm
                        obtain ⟨y81, hy81, hF⟩ := bnd_some hF
                        have hf9 := wA_in hD hA9 hS
                        refine va_calli (va_runS (As := [va_re ad p0, .int x78, .int x80]) (rest := []) ⟨hx, hb, hml, hown, hts⟩ (kX2_strengthOf l D ct ad Z G y24.1 H.size p0 x78 x80 y81 hy81) (va_cwS 3 hts gX2_measure_X2_strengthOf rfl rfl rfl (by decide +kernel) ⟨Nat.le_of_ble_eq_true rfl, Nat.le_of_ble_eq_true rfl⟩) ⟨fun a U g mk q => by obtain ⟨q0, q1, qP, qK, qD, qZ, qN⟩ := q; exact ⟨q0, q1, qP, va_K.moved (u := U) (U := U.calling g mk a) (Vm.Alike.refl U.vm) qK, qD, sF.moved (u := U) (U := U.calling g mk a) (Vm.Alike.refl U.vm) qZ, nF.same rfl qN⟩, fun U hU hW => ⟨rfl, by rw [hU], by rw [hU]; exact hP, va_K.moved hW.alike hK, hD.weaken (fun _ _ _ _ => trivial), by rw [hU]; exact ((hZ.kept hS.2.1).narrow hf9).moved hW.alike, hN.warm hW⟩⟩ rfl rfl hl.1 rfl (lv_room (Nat.le_of_ble_eq_true rfl)) dX2_measure_243 ⟨(Nat.zero_le _), (Nat.zero_le _)⟩) hS (fun q _ h => hf9 q h) hf9 (fun r u t H locs ht hvm hw hB hz1 hk1 hS => ?_)
                        obtain ⟨hP, hK9, hD9⟩ := hB
                        rw [ht] at hP
                        try dsimp only at hw
                        subst hw
                        have hD := hD9.weaken (fun _ q _ h => hf9 q.1 h)
                        refine lv_istore (lv' := [(12, .int y81.2), (13, .int x75), (11, .int y27), (10, .int x26), (9, .int x23), (8, .int s16.1), (7, .int y14), (6, .int y13), (5, .int s9.1), (4, .int x7), (3, .int x4), (0, .ref (ad a)), (1, va_re ad p0), (2, .int p1)]) hx hb dX2_measure_246 hl (by decide) rfl (fun ls hl => ?_)
                        obtain rfl := Option.some.inj hF
                        exact J60 _ _ _ hP hD hS (lv_sub hl [0, 2, 3, 4, 5, 6, 7, 8, 9, 10, 11, 12, 13] rfl)
                      clear hF
                      have hF := hy76
                      clear hy76
                      refine lv_if_eq (tgt := 230) hx hb dX2_measure_223 (by decide) (fun c82 => ?_) (fun c82 => ?_)
                      · rw [if_pos c82] at hF
                        refine lv_iload hx hb dX2_measure_230 (lv_at hl 7 rfl) ?_
                        obtain rfl := Option.some.inj hF
                        exact J76 _ _ _ hP hD hS (lv_sub hl [0, 1, 2, 3, 4, 5, 6, 7, 8, 9, 10, 11, 12, 13] rfl)
                      · rw [if_neg c82] at hF
                        refine lv_iload_n hx hb dX2_measure_226 rfl (lv_at hl 13 rfl) ?_
                        refine lv_goto (tgt := 232) hx hb dX2_measure_227 (by decide) ?_
                        obtain rfl := Option.some.inj hF
                        exact J76 _ _ _ hP hD hS (lv_sub hl [0, 1, 2, 3, 4, 5, 6, 7, 8, 9, 10, 11, 12, 13] rfl)
              clear hF
              have hF := hy27
              clear hy27
              refine lv_if_lt (tgt := 160) hx hb dX2_measure_148 (by decide) (fun c83 => ?_) (fun c83 => ?_)
              · rw [if_pos c83] at hF
                refine lv_iconst (v := (0 : Int32)) hx hb dX2_measure_160 (by decide) ?_
                obtain rfl := Option.some.inj hF
                exact J27 _ _ _ hP hD hS (lv_sub hl [0, 1, 2, 3, 4, 5, 6, 7, 8, 9, 10] rfl)
              · rw [if_neg c83] at hF
                refine lv_iload hx hb dX2_measure_151 (lv_at hl 0 rfl) ?_
                obtain ⟨y84, hy84, hF⟩ := bnd_some hF
                have J84 : ∀ (H : Heap) (locs : List Loc) (ls : Array Slot), va_P D classes (wld ct ad G y24.1) H → va_D A (wld ct ad G y24.1) → va_S A s.heap H locs → lv_has ls 14 [(10, .int x26), (9, .int x23), (8, .int s16.1), (7, .int y14), (6, .int y13), (5, .int s9.1), (4, .int x7), (3, .int x4), (0, .ref (ad a)), (1, va_re ad p0), (2, .int p1)] → W p l e (headSpec wsX2_measure ({ frames := 3, cells := 0, slots := 0, locals := 78 })).room s m ([.ref (ad a), va_re ad p0, .int p1] : List Value).toArray below meth c H locs 0 0 (MQ below (va_Qv (fun (_ : Unit) => True) (fun _ t => kE D ct ad G A y t) A) ([.ref (ad a), va_re ad p0, .int p1] : List Value).toArray s 0 0 A) (F0 m 161 ls [.int y84]) := by
                  intro H locs ls hP hD hS hl
                  obtain rfl := Option.some.inj hF
                  exact J27 _ _ _ hP hD hS (lv_sub hl [0, 1, 2, 3, 4, 5, 6, 7, 8, 9, 10] rfl)
                clear hF
                have hF := hy84
                clear hy84
                refine lv_if_lt (tgt := 160) hx hb dX2_measure_153 (by decide) (fun c85 => ?_) (fun c85 => ?_)
                · rw [if_pos c85] at hF
                  refine lv_iconst (v := (0 : Int32)) hx hb dX2_measure_160 (by decide) ?_
                  obtain rfl := Option.some.inj hF
                  exact J84 _ _ _ hP hD hS (lv_sub hl [0, 1, 2, 3, 4, 5, 6, 7, 8, 9, 10] rfl)
                · rw [if_neg c85] at hF
                  refine lv_iconst (v := (1 : Int32)) hx hb dX2_measure_156 (by decide) ?_
                  refine lv_goto (tgt := 161) hx hb dX2_measure_157 (by decide) ?_
                  obtain rfl := Option.some.inj hF
                  exact J84 _ _ _ hP hD hS (lv_sub hl [0, 1, 2, 3, 4, 5, 6, 7, 8, 9, 10] rfl)
            clear hF
            have hF := hy25
            clear hy25
            refine lv_icmp_ne (tgt := 142) hx hb dX2_measure_135 (by decide) (fun c86 => ?_) (fun c86 => ?_)
            · rw [if_neg c86] at hF
              refine lv_iconst (v := (0 : Int32)) hx hb dX2_measure_142 (by decide) ?_
              obtain rfl := Option.some.inj hF
              exact J25 _ _ _ hP hD hS (lv_sub hl [0, 1, 2, 3, 4, 5, 6, 7, 8, 9] rfl)
            · rw [if_pos c86] at hF
              refine lv_iconst (v := (4 : Int32)) hx hb dX2_measure_138 (by decide) ?_
              refine lv_goto (tgt := 143) hx hb dX2_measure_139 (by decide) ?_
              obtain rfl := Option.some.inj hF
              exact J25 _ _ _ hP hD hS (lv_sub hl [0, 1, 2, 3, 4, 5, 6, 7, 8, 9] rfl)
          clear hF
          have hF := hy22
          clear hy22
          refine lv_if_ne (tgt := 123) hx hb dX2_measure_116 (by decide) (fun c87 => ?_) (fun c87 => ?_)
          · rw [if_neg c87] at hF
            refine lv_iconst (v := (0 : Int32)) hx hb dX2_measure_123 (by decide) ?_
            obtain rfl := Option.some.inj hF
            exact J22 _ _ _ hP hD hS (lv_sub hl [0, 1, 2, 3, 4, 5, 6, 7, 8] rfl)
          · rw [if_pos c87] at hF
            refine lv_iconst (v := (4 : Int32)) hx hb dX2_measure_119 (by decide) ?_
            refine lv_goto (tgt := 124) hx hb dX2_measure_120 (by decide) ?_
            obtain rfl := Option.some.inj hF
            exact J22 _ _ _ hP hD hS (lv_sub hl [0, 1, 2, 3, 4, 5, 6, 7, 8] rfl)
      clear hF
      have hF := hy14
      clear hy14
      refine lv_if_lt (tgt := 96) hx hb dX2_measure_55 (by decide) (fun c88 => ?_) (fun c88 => ?_)
      · rw [if_pos c88] at hF
        refine lv_iconst (v := (0 : Int32)) hx hb dX2_measure_96 (by decide) ?_
        obtain rfl := Option.some.inj hF
        exact J14 _ _ _ hP hD hS (lv_sub hl [0, 1, 2, 3, 4, 5, 6] rfl)
      · rw [if_neg c88] at hF
        refine lv_iload hx hb dX2_measure_58 (lv_at hl 2 rfl) ?_
        refine lv_iconst (v := (2 : Int32)) hx hb dX2_measure_60 (by decide) ?_
        obtain ⟨y89, hy89, hF⟩ := bnd_some hF
        have J89 : ∀ (H : Heap) (locs : List Loc) (ls : Array Slot), va_P D classes (wld ct ad G s9.2) H → va_D A (wld ct ad G s9.2) → va_S A s.heap H locs → lv_has ls 14 [(6, .int y13), (5, .int s9.1), (4, .int x7), (3, .int x4), (0, .ref (ad a)), (1, va_re ad p0), (2, .int p1)] → W p l e (headSpec wsX2_measure ({ frames := 3, cells := 0, slots := 0, locals := 78 })).room s m ([.ref (ad a), va_re ad p0, .int p1] : List Value).toArray below meth c H locs 0 0 (MQ below (va_Qv (fun (_ : Unit) => True) (fun _ t => kE D ct ad G A y t) A) ([.ref (ad a), va_re ad p0, .int p1] : List Value).toArray s 0 0 A) (F0 m 97 ls [.int y89]) := by
          intro H locs ls hP hD hS hl
          obtain rfl := Option.some.inj hF
          exact J14 _ _ _ hP hD hS (lv_sub hl [0, 1, 2, 3, 4, 5, 6] rfl)
        clear hF
        have hF := hy89
        clear hy89
        refine lv_icmp_ne (tgt := 92) hx hb dX2_measure_61 (by decide) (fun c90 => ?_) (fun c90 => ?_)
        · rw [if_neg c90] at hF
          refine lv_iconst (v := (1 : Int32)) hx hb dX2_measure_92 (by decide) ?_
          refine lv_goto (tgt := 97) hx hb dX2_measure_93 (by decide) ?_
          obtain rfl := Option.some.inj hF
          exact J89 _ _ _ hP hD hS (lv_sub hl [0, 1, 2, 3, 4, 5, 6] rfl)
        · rw [if_pos c90] at hF
          refine lv_aloadq_n hx hb dX2_measure_64 rfl (lv_at hl 5 rfl) ?_
          refine W_st (st' := [.ref (ad b2)]) (by rw [va_some ho2]) ?_
          refine va_get (D := D) (ci := 9) (v := va_re ad (s9.2.2 b2 6)) (C := RX9) (T := TX9) (N := 20) hx hb hts (by decide +kernel) hown hK hP b2 (wld_o ct ad G s9.2 hc2 hk2 (by decide)) rfl 6 (by decide) (hts (.fieldLink RX2 27 "VideoSuite$Work" "info" "[I") (by decide +kernel)) (fun _ h9 => h9) rfl dX2_measure_65 ?_
          refine lv_bipush (v := (8 : Int32)) hx hb dX2_measure_68 (by decide) ?_
          refine lv_iload_n hx hb dX2_measure_70 rfl (lv_at hl 6 rfl) ?_
          refine lv_imul hx hb dX2_measure_71 ?_
          obtain ⟨x91, ex91, hF⟩ := ltt_some hF
          refine lv_topi (fun zx91 ezx91 => ?_)
          obtain rfl : x91 = zx91 := ex91.trans ezx91.symm
          refine lv_bipush (v := (6 : Int32)) hx hb dX2_measure_72 (by decide) ?_
          refine lv_iadd hx hb dX2_measure_74 ?_
          obtain ⟨x92, ex92, hF⟩ := ltt_some hF
          refine lv_topi (fun zx92 ezx92 => ?_)
          obtain rfl : x92 = zx92 := ex92.trans ezx92.symm
          obtain ⟨b93, ho93, hc93, hk93, hF⟩ := dr_some hF
          refine W_st (st' := [.int x92, .ref (ad b93)]) (by rw [va_some ho93]) ?_
          obtain ⟨hvc, hF⟩ := chk_some hF
          refine va_iald hx hb hK hP b93 1 (wld_i ct ad G s9.2 hc93 hk93) rfl hvc dX2_measure_75 ?_
          obtain ⟨x94, ex94, hF⟩ := ltt_some hF
          refine lv_topi (fun zx94 ezx94 => ?_)
          obtain rfl : x94 = zx94 := ex94.trans ezx94.symm
          refine lv_aloadq_n hx hb dX2_measure_76 rfl (lv_at hl 5 rfl) ?_
          refine W_st (st' := [.ref (ad b2), .int x94]) (by rw [va_some ho2]) ?_
          refine va_get (D := D) (ci := 9) (v := va_re ad (s9.2.2 b2 6)) (C := RX9) (T := TX9) (N := 20) hx hb hts (by decide +kernel) hown hK hP b2 (wld_o ct ad G s9.2 hc2 hk2 (by decide)) rfl 6 (by decide) (hts (.fieldLink RX2 27 "VideoSuite$Work" "info" "[I") (by decide +kernel)) (fun _ h9 => h9) rfl dX2_measure_77 ?_
          refine lv_bipush (v := (8 : Int32)) hx hb dX2_measure_80 (by decide) ?_
          refine lv_iload hx hb dX2_measure_82 (lv_at hl 0 rfl) ?_
          refine lv_imul hx hb dX2_measure_84 ?_
          obtain ⟨x95, ex95, hF⟩ := ltt_some hF
          refine lv_topi (fun zx95 ezx95 => ?_)
          obtain rfl : x95 = zx95 := ex95.trans ezx95.symm
          refine lv_bipush (v := (6 : Int32)) hx hb dX2_measure_85 (by decide) ?_
          refine lv_iadd hx hb dX2_measure_87 ?_
          obtain ⟨x96, ex96, hF⟩ := ltt_some hF
          refine lv_topi (fun zx96 ezx96 => ?_)
          obtain rfl : x96 = zx96 := ex96.trans ezx96.symm
          refine W_st (st' := [.int x96, .ref (ad b93), .int x94]) (by rw [va_some ho93]) ?_
          obtain ⟨hvc, hF⟩ := chk_some hF
          refine va_iald hx hb hK hP b93 1 (wld_i ct ad G s9.2 hc93 hk93) rfl hvc dX2_measure_88 ?_
          obtain ⟨x97, ex97, hF⟩ := ltt_some hF
          refine lv_topi (fun zx97 ezx97 => ?_)
          obtain rfl : x97 = zx97 := ex97.trans ezx97.symm
          obtain ⟨y98, hy98, hF⟩ := bnd_some hF
          have J98 : ∀ (H : Heap) (locs : List Loc) (ls : Array Slot), va_P D classes (wld ct ad G s9.2) H → va_D A (wld ct ad G s9.2) → va_S A s.heap H locs → lv_has ls 14 [(6, .int y13), (5, .int s9.1), (4, .int x7), (3, .int x4), (0, .ref (ad a)), (1, va_re ad p0), (2, .int p1)] → W p l e (headSpec wsX2_measure ({ frames := 3, cells := 0, slots := 0, locals := 78 })).room s m ([.ref (ad a), va_re ad p0, .int p1] : List Value).toArray below meth c H locs 0 0 (MQ below (va_Qv (fun (_ : Unit) => True) (fun _ t => kE D ct ad G A y t) A) ([.ref (ad a), va_re ad p0, .int p1] : List Value).toArray s 0 0 A) (F0 m 97 ls [.int y98]) := by
            intro H locs ls hP hD hS hl
            obtain rfl := Option.some.inj hF
            exact J89 _ _ _ hP hD hS (lv_sub hl [0, 1, 2, 3, 4, 5, 6] rfl)
          clear hF
          have hF := hy98
          clear hy98
          refine lv_icmp_ne (tgt := 96) hx hb dX2_measure_89 (by decide) (fun c99 => ?_) (fun c99 => ?_)
          · rw [if_neg c99] at hF
            refine lv_iconst (v := (0 : Int32)) hx hb dX2_measure_96 (by decide) ?_
            obtain rfl := Option.some.inj hF
            exact J98 _ _ _ hP hD hS (lv_sub hl [0, 1, 2, 3, 4, 5, 6] rfl)
          · rw [if_pos c99] at hF
            refine lv_iconst (v := (1 : Int32)) hx hb dX2_measure_92 (by decide) ?_
            refine lv_goto (tgt := 97) hx hb dX2_measure_93 (by decide) ?_
            obtain rfl := Option.some.inj hF
            exact J98 _ _ _ hP hD hS (lv_sub hl [0, 1, 2, 3, 4, 5, 6] rfl)
    clear hF
    have hF := hy13
    clear hy13
    refine lv_if_ne (tgt := 48) hx hb dX2_measure_29 (by decide) (fun c100 => ?_) (fun c100 => ?_)
    · rw [if_neg c100] at hF
      refine lv_iload_n hx hb dX2_measure_48 rfl (lv_at hl 5 rfl) ?_
      refine lv_iload_n hx hb dX2_measure_49 rfl (lv_at hl 2 rfl) ?_
      refine lv_isub hx hb dX2_measure_50 ?_
      obtain ⟨x101, ex101, hF⟩ := ltt_some hF
      refine lv_topi (fun zx101 ezx101 => ?_)
      obtain rfl : x101 = zx101 := ex101.trans ezx101.symm
      obtain rfl := Option.some.inj hF
      exact J13 _ _ _ hP hD hS (lv_sub hl [0, 1, 2, 3, 4, 5] rfl)
    · rw [if_pos c100] at hF
      refine lv_iload_n hx hb dX2_measure_32 rfl (lv_at hl 5 rfl) ?_
      refine lv_iload_n hx hb dX2_measure_33 rfl (lv_at hl 2 rfl) ?_
      obtain ⟨hne, hF⟩ := chk_some hF
      refine lv_irem hx hb dX2_measure_34 hne ?_
      obtain ⟨x102, ex102, hF⟩ := ltt_some hF
      refine lv_topi (fun zx102 ezx102 => ?_)
      obtain rfl : x102 = zx102 := ex102.trans ezx102.symm
      obtain ⟨y103, hy103, hF⟩ := bnd_some hF
      have J103 : ∀ (H : Heap) (locs : List Loc) (ls : Array Slot), va_P D classes (wld ct ad G s9.2) H → va_D A (wld ct ad G s9.2) → va_S A s.heap H locs → lv_has ls 14 [(5, .int s9.1), (4, .int x7), (3, .int x4), (0, .ref (ad a)), (1, va_re ad p0), (2, .int p1)] → W p l e (headSpec wsX2_measure ({ frames := 3, cells := 0, slots := 0, locals := 78 })).room s m ([.ref (ad a), va_re ad p0, .int p1] : List Value).toArray below meth c H locs 0 0 (MQ below (va_Qv (fun (_ : Unit) => True) (fun _ t => kE D ct ad G A y t) A) ([.ref (ad a), va_re ad p0, .int p1] : List Value).toArray s 0 0 A) (F0 m 51 ls [.int y103]) := by
        intro H locs ls hP hD hS hl
        obtain rfl := Option.some.inj hF
        exact J13 _ _ _ hP hD hS (lv_sub hl [0, 1, 2, 3, 4, 5] rfl)
      clear hF
      have hF := hy103
      clear hy103
      refine lv_if_le (tgt := 44) hx hb dX2_measure_35 (by decide) (fun c104 => ?_) (fun c104 => ?_)
      · rw [if_pos c104] at hF
        refine lv_iconst (v := (-1 : Int32)) hx hb dX2_measure_44 (by decide) ?_
        refine lv_goto (tgt := 51) hx hb dX2_measure_45 (by decide) ?_
        obtain rfl := Option.some.inj hF
        exact J103 _ _ _ hP hD hS (lv_sub hl [0, 1, 2, 3, 4, 5] rfl)
      · rw [if_neg c104] at hF
        refine lv_iload_n hx hb dX2_measure_38 rfl (lv_at hl 5 rfl) ?_
        refine lv_iconst (v := (1 : Int32)) hx hb dX2_measure_39 (by decide) ?_
        refine lv_isub hx hb dX2_measure_40 ?_
        obtain ⟨x105, ex105, hF⟩ := ltt_some hF
        refine lv_topi (fun zx105 ezx105 => ?_)
        obtain rfl : x105 = zx105 := ex105.trans ezx105.symm
        refine lv_goto (tgt := 51) hx hb dX2_measure_41 (by decide) ?_
        obtain rfl := Option.some.inj hF
        exact J103 _ _ _ hP hD hS (lv_sub hl [0, 1, 2, 3, 4, 5] rfl)
theorem ggX5_expect_X5_fixed : GoodIn wsX5_expect wsX5_fixed := goodIn_ca (goodIn_r _ [6, 7, 1, 8, 9, 10, 5, 11, 12, 13, 14, 15, 16, 17, 18, 19, 20, 21, 22, 23, 24, 25, 26, 27, 28, 29, 30, 31, 36, 37, 38, 39, 40, 41, 42, 43, 44, 45, 46, 47, 48, 49, 50, 51, 52] (by decide +kernel) (by decide +kernel)) (goodIn_sub (fun _ h => List.mem_cons_of_mem _ (List.mem_append_right _ h)) (by decide +kernel))
set_option maxRecDepth 20000 in
theorem gX5_expect_X5_fixed : GoodIn wsX5_expect (wsV RX5 130 RX5 yX5_fixed wsX5_fixed) := goodIn_app (goodIn_of _ (by decide +kernel)) ggX5_expect_X5_fixed
set_option maxRecDepth 20000 in
theorem dX5_expect_0 : decode cX5_expect 0 = .ok (.aload_n 0, 1) := by decide +kernel
theorem dX5_expect_1 : decode cX5_expect 1 = .ok (.iconst 0, 1) := by decide +kernel
theorem dX5_expect_2 : decode cX5_expect 2 = .ok (.iconst 1, 1) := by decide +kernel
theorem dX5_expect_3 : decode cX5_expect 3 = .ok (.invokevirtual 130, 3) := by decide +kernel
theorem dX5_expect_6 : decode cX5_expect 6 = .ok (.iload_n 1, 1) := by decide +kernel
theorem dX5_expect_7 : decode cX5_expect 7 = .ok (.if_icmp .eq 12, 3) := by decide +kernel
theorem dX5_expect_10 : decode cX5_expect 10 = .ok (.aload_n 0, 1) := by decide +kernel
theorem dX5_expect_11 : decode cX5_expect 11 = .ok (.iconst 2, 1) := by decide +kernel
theorem dX5_expect_12 : decode cX5_expect 12 = .ok (.aload_n 0, 1) := by decide +kernel
theorem dX5_expect_13 : decode cX5_expect 13 = .ok (.getfield 60, 3) := by decide +kernel
theorem dX5_expect_16 : decode cX5_expect 16 = .ok (.invokevirtual 89, 3) := by decide +kernel
theorem dX5_expect_19 : decode cX5_expect 19 = .ok (.return_, 1) := by decide +kernel
def FX5_expect (G : GG) (M : DD) (a : Nat) (p0 : Int32) : Option (DD) :=
  bnd (FX5_fixed G M a ((0 : Int32)) ((1 : Int32))) fun y1 =>
  bnd (if y1.2 = p0 then (some (y1.1)) else
  (ltt (y1.1.1 a 4) fun x4 =>
  none)) fun (y2 : DD) =>
  some y2
set_option maxHeartbeats 4000000 in
set_option maxRecDepth 100000 in
theorem kX5_expect (l : Launch) (D : va_G) (ct : CT) (ad : Nat → Nat) (Z : Nat → Nat) (G : GG) (M : DD) (sz : Nat) (a : Nat) (p0 : Int32) (y : DD) (hc : a < G.1) (hk : G.2.1 a = 5) (hF : FX5_expect G M a p0 = some y) : Met l yX5_expect wsX5_expect ({ frames := 2, cells := 0, slots := 0, locals := 51 }) (va_Pc [.ref (ad a), .int p0] (kB D ct ad Z G M sz)) (va_Qv (fun (_ : Unit) => True) (fun _ t => kE D ct ad G (wA ad G sz) y t) (wA ad G sz)) 0 0 (wA ad G sz) := by
  refine Met.ofW (cc := cX5_expect) (maxL := 2) (ret := none) (by decide) rfl ?_
  intro p e s m args below meth c s₁ B hml hv
  obtain ⟨rfl, hsz, hP, hK, hD0, hZ, hN⟩ := hv
  have hx := B.exec
  have hb := B.bytes
  have hr := B.returns
  have hts := atoms_spec (ws := wsX5_expect) B.pre
  have hown : s.vm.findClass RX5 = some m.cls := findClass_of_methodNamed B.named
  have hlocks := B.notSynchronized
  subst hsz
  have hD := wD_self (sz := s.heap.size) hD0
  have hA9 : ∀ q, s.heap.size ≤ q → wA ad G s.heap.size q := fun q h => Or.inr h
  generalize hAe : wA ad G s.heap.size = A at hD hA9 hZ ⊢
  have hS : va_S A s.heap s.heap [] := va_S.rf
  have hl := lv_entry ([.ref (ad a), .int p0]) (n := 2) (Nat.le_of_ble_eq_true rfl)
  rw [lg_entry_eq]
  generalize (lg_sl ([.ref (ad a), .int p0]) ++ List.replicate (2 - (lg_sl ([.ref (ad a), .int p0])).length) Slot.unset).toArray = ls at hl ⊢
  have hl : lv_has ls 2 [(0, .ref (ad a)), (1, .int p0)] := hl
  unfold FX5_expect at hF
  refine lv_aload_n hx hb dX5_expect_0 rfl (lv_at hl 0 rfl) ?_
  refine lv_iconst (v := (0 : Int32)) hx hb dX5_expect_1 (by decide) ?_
  refine lv_iconst (v := (1 : Int32)) hx hb dX5_expect_2 (by decide) ?_
  obtain ⟨y1, hy1, hF⟩ := bnd_some hF
  have hf9 := wA_in hD hA9 hS
  refine va_calli (va_runV (As := [.int (0 : Int32), .int (1 : Int32)]) (rest := []) ⟨hx, hb, hml, hown, hts⟩ (kX5_fixed l D ct ad Z G M s.heap.size a ((0 : Int32)) ((1 : Int32)) y1 hc hk hy1) (cwV 2 hts gX5_expect_X5_fixed rfl rfl rfl (by decide +kernel) ⟨Nat.le_of_ble_eq_true rfl, Nat.le_of_ble_eq_true rfl⟩) ⟨fun a U g mk q => by obtain ⟨q0, q1, qP, qK, qD, qZ, qN⟩ := q; exact ⟨q0, q1, qP, va_K.moved (u := U) (U := U.calling g mk a) (Vm.Alike.refl U.vm) qK, qD, sF.moved (u := U) (U := U.calling g mk a) (Vm.Alike.refl U.vm) qZ, nF.same rfl qN⟩, va_recv hK hP (ci := 5) (q0 := a) rfl (wld_o ct ad G M hc hk (by decide)), fun U hU hW => ⟨rfl, by rw [hU], by rw [hU]; exact hP, va_K.moved hW.alike hK, hD.weaken (fun _ _ _ _ => trivial), by rw [hU]; exact ((hZ.kept hS.2.1).narrow hf9).moved hW.alike, hN.warm hW⟩⟩ rfl rfl hl.1 rfl (lv_room (Nat.le_of_ble_eq_true rfl)) dX5_expect_3 ⟨(Nat.zero_le _), (Nat.zero_le _)⟩) hS (fun q _ h => hf9 q h) hf9 (fun r u t H locs ht hvm hw hB hz1 hk1 hS => ?_)
  obtain ⟨hP, hK9, hD9⟩ := hB
  rw [ht] at hP
  try dsimp only at hw
  subst hw
  have hD := hD9.weaken (fun _ q _ h => hf9 q.1 h)
  refine lv_iload_n hx hb dX5_expect_6 rfl (lv_at hl 1 rfl) ?_
  obtain ⟨y2, hy2, hF⟩ := bnd_some hF
  have J2 : ∀ (H : Heap) (locs : List Loc) (ls : Array Slot), va_P D classes (wld ct ad G y2) H → va_D A (wld ct ad G y2) → va_S A s.heap H locs → lv_has ls 2 [(0, .ref (ad a)), (1, .int p0)] → W p l e (headSpec wsX5_expect ({ frames := 2, cells := 0, slots := 0, locals := 51 })).room s m ([.ref (ad a), .int p0] : List Value).toArray below meth c H locs 0 0 (MQ below (va_Qv (fun (_ : Unit) => True) (fun _ t => kE D ct ad G A y t) A) ([.ref (ad a), .int p0] : List Value).toArray s 0 0 A) (F0 m 19 ls []) := by
    intro H locs ls hP hD hS hl
    obtain rfl := Option.some.inj hF
    exact W.vret hx hb hr (fun t ht hW => ⟨⟨(), rfl, trivial, ⟨by rw [ht]; exact hP, va_K.moved hW.alike hK, hD⟩⟩, hS.F ht⟩) hS.2.2 dX5_expect_19
  clear hF
  have hF := hy2
  clear hy2
  refine lv_icmp_eq (tgt := 19) hx hb dX5_expect_7 (by decide) (fun c3 => ?_) (fun c3 => ?_)
  · rw [if_pos c3] at hF
    obtain rfl := Option.some.inj hF
    exact J2 _ _ _ hP hD hS (lv_sub hl [0, 1] rfl)
  · rw [if_neg c3] at hF
    refine lv_aload_n hx hb dX5_expect_10 rfl (lv_at hl 0 rfl) ?_
    refine lv_iconst (v := (2 : Int32)) hx hb dX5_expect_11 (by decide) ?_
    refine lv_aload_n hx hb dX5_expect_12 rfl (lv_at hl 0 rfl) ?_
    refine va_get (D := D) (ci := 5) (v := .int (y1.1.1 a 4)) (C := RX5) (T := TX5) (N := 17) hx hb hts (by decide +kernel) hown hK hP a (wld_o ct ad G y1.1 hc hk (by decide)) rfl 4 (by decide) (hts (.fieldLink RX5 60 "VideoSuite$Reader" "begin" "I") (by decide +kernel)) (fun _ h9 => h9) rfl dX5_expect_13 ?_
    obtain ⟨x4, ex4, hF⟩ := ltt_some hF
    refine lv_topi (fun zx4 ezx4 => ?_)
    obtain rfl : x4 = zx4 := ex4.trans ezx4.symm
    cases hF
theorem ggX5_levels_X5_spread : GoodIn wsX5_levels wsX5_spread := goodIn_ca (goodIn_r _ [57, 1, 37, 38, 39, 9, 40, 11, 12, 41, 13, 14, 15, 16, 17, 18, 19, 20, 21, 22, 23, 24, 25, 26, 27, 28, 29, 42, 43, 44, 45, 30, 31, 32, 33, 34, 35, 36, 46, 47, 48, 49, 58, 59, 60, 61, 62, 63, 64, 65, 66, 67, 68, 69, 70, 71, 72, 73, 74] (by decide +kernel) (by decide +kernel)) (goodIn_sub (fun _ h => List.mem_cons_of_mem _ (List.mem_append_right _ h)) (by decide +kernel))
set_option maxRecDepth 20000 in
theorem gX5_levels_X5_spread : GoodIn wsX5_levels (wsV RX5 155 RX5 yX5_spread wsX5_spread) := goodIn_app (goodIn_of _ (by decide +kernel)) ggX5_levels_X5_spread
theorem ggX5_levels_X5_oneLevel : GoodIn wsX5_levels wsX5_oneLevel := goodIn_ca (goodIn_r _ [53, 11, 12, 13, 14, 15, 9, 16, 17, 18, 19, 20, 21, 22, 23, 24, 25, 26, 27, 28, 29, 42, 43, 44, 45, 30, 31, 32, 33, 34, 35, 36, 6, 7, 8, 10, 58, 59, 60, 61, 62, 63, 64, 65, 66, 67, 68, 69, 70, 71, 72, 73, 74] (by decide +kernel) (by decide +kernel)) (goodIn_sub (fun _ h => List.mem_cons_of_mem _ (List.mem_append_right _ h)) (by decide +kernel))
set_option maxRecDepth 20000 in
theorem gX5_levels_X5_oneLevel : GoodIn wsX5_levels (wsV RX5 145 RX5 yX5_oneLevel wsX5_oneLevel) := goodIn_app (goodIn_of _ (by decide +kernel)) ggX5_levels_X5_oneLevel
set_option maxRecDepth 20000 in
theorem ggX5_levels_X5_fixed : GoodIn wsX5_levels wsX5_fixed := goodIn_ca (goodIn_r _ [10, 11, 12, 13, 14, 15, 9, 16, 17, 18, 19, 20, 21, 22, 23, 24, 25, 26, 27, 28, 29, 30, 31, 32, 33, 34, 35, 36, 58, 59, 60, 61, 62, 63, 64, 65, 66, 67, 68, 69, 70, 71, 72, 73, 74] (by decide +kernel) (by decide +kernel)) (goodIn_sub (fun _ h => List.mem_cons_of_mem _ (List.mem_append_right _ h)) (by decide +kernel))
set_option maxRecDepth 20000 in
theorem gX5_levels_X5_fixed : GoodIn wsX5_levels (wsV RX5 130 RX5 yX5_fixed wsX5_fixed) := goodIn_app (goodIn_of _ (by decide +kernel)) ggX5_levels_X5_fixed
set_option maxRecDepth 20000 in
theorem ggX5_levels_X5_code : GoodIn wsX5_levels wsX5_code := goodIn_ca (goodIn_r _ [40, 11, 12, 41, 13, 14, 15, 9, 16, 17, 18, 19, 20, 21, 22, 23, 24, 25, 26, 27, 28, 29, 42, 43, 44, 45, 30, 31, 32, 33, 34, 35, 36, 58, 59, 60, 61, 62, 63, 64, 65, 66, 67, 68, 69, 70, 71, 72, 73, 74] (by decide +kernel) (by decide +kernel)) (goodIn_sub (fun _ h => List.mem_cons_of_mem _ (List.mem_append_right _ h)) (by decide +kernel))
set_option maxRecDepth 20000 in
theorem gX5_levels_X5_code : GoodIn wsX5_levels (wsV RX5 142 RX5 yX5_code wsX5_code) := goodIn_app (goodIn_of _ (by decide +kernel)) ggX5_levels_X5_code
set_option maxRecDepth 20000 in
theorem dX5_levels_0 : decode cX5_levels 0 = .ok (.iload_n 1, 1) := by decide +kernel
theorem dX5_levels_1 : decode cX5_levels 1 = .ok (.iconst 3, 1) := by decide +kernel
theorem dX5_levels_2 : decode cX5_levels 2 = .ok (.if_icmp .ne 32, 3) := by decide +kernel
theorem dX5_levels_5 : decode cX5_levels 5 = .ok (.aload_n 0, 1) := by decide +kernel
theorem dX5_levels_6 : decode cX5_levels 6 = .ok (.bipush 11, 2) := by decide +kernel
theorem dX5_levels_8 : decode cX5_levels 8 = .ok (.bipush 6, 2) := by decide +kernel
theorem dX5_levels_10 : decode cX5_levels 10 = .ok (.invokevirtual 130, 3) := by decide +kernel
theorem dX5_levels_13 : decode cX5_levels 13 = .ok (.istore 6, 2) := by decide +kernel
theorem dX5_levels_15 : decode cX5_levels 15 = .ok (.iload 6, 2) := by decide +kernel
theorem dX5_levels_17 : decode cX5_levels 17 = .ok (.iconst 3, 1) := by decide +kernel
theorem dX5_levels_18 : decode cX5_levels 18 = .ok (.if_icmp .ne 7, 3) := by decide +kernel
theorem dX5_levels_21 : decode cX5_levels 21 = .ok (.iconst 0, 1) := by decide +kernel
theorem dX5_levels_22 : decode cX5_levels 22 = .ok (.goto 7, 3) := by decide +kernel
theorem dX5_levels_25 : decode cX5_levels 25 = .ok (.iload 6, 2) := by decide +kernel
theorem dX5_levels_27 : decode cX5_levels 27 = .ok (.iconst 4, 1) := by decide +kernel
theorem dX5_levels_28 : decode cX5_levels 28 = .ok (.iadd, 1) := by decide +kernel
theorem dX5_levels_29 : decode cX5_levels 29 = .ok (.istore 5, 2) := by decide +kernel
theorem dX5_levels_31 : decode cX5_levels 31 = .ok (.goto 21, 3) := by decide +kernel
theorem dX5_levels_34 : decode cX5_levels 34 = .ok (.aload_n 0, 1) := by decide +kernel
theorem dX5_levels_35 : decode cX5_levels 35 = .ok (.bipush 11, 2) := by decide +kernel
theorem dX5_levels_37 : decode cX5_levels 37 = .ok (.iload_n 1, 1) := by decide +kernel
theorem dX5_levels_38 : decode cX5_levels 38 = .ok (.iconst 4, 1) := by decide +kernel
theorem dX5_levels_39 : decode cX5_levels 39 = .ok (.if_icmp .ne 7, 3) := by decide +kernel
theorem dX5_levels_42 : decode cX5_levels 42 = .ok (.iconst 3, 1) := by decide +kernel
theorem dX5_levels_43 : decode cX5_levels 43 = .ok (.goto 4, 3) := by decide +kernel
theorem dX5_levels_46 : decode cX5_levels 46 = .ok (.iload_n 1, 1) := by decide +kernel
theorem dX5_levels_47 : decode cX5_levels 47 = .ok (.invokevirtual 142, 3) := by decide +kernel
theorem dX5_levels_50 : decode cX5_levels 50 = .ok (.istore 5, 2) := by decide +kernel
theorem dX5_levels_52 : decode cX5_levels 52 = .ok (.iload 5, 2) := by decide +kernel
theorem dX5_levels_54 : decode cX5_levels 54 = .ok (.iconst 2, 1) := by decide +kernel
theorem dX5_levels_55 : decode cX5_levels 55 = .ok (.ishr, 1) := by decide +kernel
theorem dX5_levels_56 : decode cX5_levels 56 = .ok (.istore 6, 2) := by decide +kernel
theorem dX5_levels_58 : decode cX5_levels 58 = .ok (.iload 5, 2) := by decide +kernel
theorem dX5_levels_60 : decode cX5_levels 60 = .ok (.iconst 3, 1) := by decide +kernel
theorem dX5_levels_61 : decode cX5_levels 61 = .ok (.iand, 1) := by decide +kernel
theorem dX5_levels_62 : decode cX5_levels 62 = .ok (.istore 7, 2) := by decide +kernel
theorem dX5_levels_64 : decode cX5_levels 64 = .ok (.iload 7, 2) := by decide +kernel
theorem dX5_levels_66 : decode cX5_levels 66 = .ok (.iload 6, 2) := by decide +kernel
theorem dX5_levels_68 : decode cX5_levels 68 = .ok (.if_icmp .gt 9, 3) := by decide +kernel
theorem dX5_levels_71 : decode cX5_levels 71 = .ok (.iload 6, 2) := by decide +kernel
theorem dX5_levels_73 : decode cX5_levels 73 = .ok (.iload_n 2, 1) := by decide +kernel
theorem dX5_levels_74 : decode cX5_levels 74 = .ok (.if_icmp .le 8, 3) := by decide +kernel
theorem dX5_levels_77 : decode cX5_levels 77 = .ok (.aload_n 0, 1) := by decide +kernel
theorem dX5_levels_78 : decode cX5_levels 78 = .ok (.iconst 4, 1) := by decide +kernel
theorem dX5_levels_79 : decode cX5_levels 79 = .ok (.invokevirtual 126, 3) := by decide +kernel
theorem dX5_levels_82 : decode cX5_levels 82 = .ok (.iload 6, 2) := by decide +kernel
theorem dX5_levels_84 : decode cX5_levels 84 = .ok (.bipush 10, 2) := by decide +kernel
theorem dX5_levels_86 : decode cX5_levels 86 = .ok (.if_icmp .le 13, 3) := by decide +kernel
theorem dX5_levels_89 : decode cX5_levels 89 = .ok (.iload 7, 2) := by decide +kernel
theorem dX5_levels_91 : decode cX5_levels 91 = .ok (.iconst 3, 1) := by decide +kernel
theorem dX5_levels_92 : decode cX5_levels 92 = .ok (.if_icmp .ge 7, 3) := by decide +kernel
theorem dX5_levels_95 : decode cX5_levels 95 = .ok (.iconst 1, 1) := by decide +kernel
theorem dX5_levels_96 : decode cX5_levels 96 = .ok (.goto 4, 3) := by decide +kernel
theorem dX5_levels_99 : decode cX5_levels 99 = .ok (.iconst 0, 1) := by decide +kernel
theorem dX5_levels_100 : decode cX5_levels 100 = .ok (.istore 8, 2) := by decide +kernel
theorem dX5_levels_102 : decode cX5_levels 102 = .ok (.iconst 0, 1) := by decide +kernel
theorem dX5_levels_103 : decode cX5_levels 103 = .ok (.istore 9, 2) := by decide +kernel
theorem dX5_levels_105 : decode cX5_levels 105 = .ok (.iload 9, 2) := by decide +kernel
theorem dX5_levels_107 : decode cX5_levels 107 = .ok (.iload 6, 2) := by decide +kernel
theorem dX5_levels_109 : decode cX5_levels 109 = .ok (.if_icmp .ge 118, 3) := by decide +kernel
theorem dX5_levels_112 : decode cX5_levels 112 = .ok (.iload 9, 2) := by decide +kernel
theorem dX5_levels_114 : decode cX5_levels 114 = .ok (.iload 7, 2) := by decide +kernel
theorem dX5_levels_116 : decode cX5_levels 116 = .ok (.if_icmp .ge 24, 3) := by decide +kernel
theorem dX5_levels_119 : decode cX5_levels 119 = .ok (.aload_n 0, 1) := by decide +kernel
theorem dX5_levels_120 : decode cX5_levels 120 = .ok (.getfield 21, 3) := by decide +kernel
theorem dX5_levels_123 : decode cX5_levels 123 = .ok (.iload 9, 2) := by decide +kernel
theorem dX5_levels_125 : decode cX5_levels 125 = .ok (.iconst 1, 1) := by decide +kernel
theorem dX5_levels_126 : decode cX5_levels 126 = .ok (.iconst 2, 1) := by decide +kernel
theorem dX5_levels_127 : decode cX5_levels 127 = .ok (.aload_n 0, 1) := by decide +kernel
theorem dX5_levels_128 : decode cX5_levels 128 = .ok (.bipush 12, 2) := by decide +kernel
theorem dX5_levels_130 : decode cX5_levels 130 = .ok (.iconst 1, 1) := by decide +kernel
theorem dX5_levels_131 : decode cX5_levels 131 = .ok (.invokevirtual 130, 3) := by decide +kernel
theorem dX5_levels_134 : decode cX5_levels 134 = .ok (.imul, 1) := by decide +kernel
theorem dX5_levels_135 : decode cX5_levels 135 = .ok (.isub, 1) := by decide +kernel
theorem dX5_levels_136 : decode cX5_levels 136 = .ok (.iastore, 1) := by decide +kernel
theorem dX5_levels_137 : decode cX5_levels 137 = .ok (.goto 84, 3) := by decide +kernel
theorem dX5_levels_140 : decode cX5_levels 140 = .ok (.aload_n 0, 1) := by decide +kernel
theorem dX5_levels_141 : decode cX5_levels 141 = .ok (.getfield 21, 3) := by decide +kernel
theorem dX5_levels_144 : decode cX5_levels 144 = .ok (.iload 9, 2) := by decide +kernel
theorem dX5_levels_146 : decode cX5_levels 146 = .ok (.aload_n 0, 1) := by decide +kernel
theorem dX5_levels_147 : decode cX5_levels 147 = .ok (.iload 8, 2) := by decide +kernel
theorem dX5_levels_149 : decode cX5_levels 149 = .ok (.iload 9, 2) := by decide +kernel
theorem dX5_levels_151 : decode cX5_levels 151 = .ok (.iload 7, 2) := by decide +kernel
theorem dX5_levels_153 : decode cX5_levels 153 = .ok (.if_icmp .ne 13, 3) := by decide +kernel
theorem dX5_levels_156 : decode cX5_levels 156 = .ok (.iload 7, 2) := by decide +kernel
theorem dX5_levels_158 : decode cX5_levels 158 = .ok (.iconst 3, 1) := by decide +kernel
theorem dX5_levels_159 : decode cX5_levels 159 = .ok (.if_icmp .ge 7, 3) := by decide +kernel
theorem dX5_levels_162 : decode cX5_levels 162 = .ok (.iconst 1, 1) := by decide +kernel
theorem dX5_levels_163 : decode cX5_levels 163 = .ok (.goto 4, 3) := by decide +kernel
theorem dX5_levels_166 : decode cX5_levels 166 = .ok (.iconst 0, 1) := by decide +kernel
theorem dX5_levels_167 : decode cX5_levels 167 = .ok (.invokevirtual 145, 3) := by decide +kernel
theorem dX5_levels_170 : decode cX5_levels 170 = .ok (.iastore, 1) := by decide +kernel
theorem dX5_levels_171 : decode cX5_levels 171 = .ok (.iload 8, 2) := by decide +kernel
theorem dX5_levels_173 : decode cX5_levels 173 = .ok (.ifCond .ne 7, 3) := by decide +kernel
theorem dX5_levels_176 : decode cX5_levels 176 = .ok (.iconst 1, 1) := by decide +kernel
theorem dX5_levels_177 : decode cX5_levels 177 = .ok (.goto 5, 3) := by decide +kernel
theorem dX5_levels_180 : decode cX5_levels 180 = .ok (.iload 8, 2) := by decide +kernel
theorem dX5_levels_182 : decode cX5_levels 182 = .ok (.istore 8, 2) := by decide +kernel
theorem dX5_levels_184 : decode cX5_levels 184 = .ok (.iload 8, 2) := by decide +kernel
theorem dX5_levels_186 : decode cX5_levels 186 = .ok (.bipush 6, 2) := by decide +kernel
theorem dX5_levels_188 : decode cX5_levels 188 = .ok (.if_icmp .ge 29, 3) := by decide +kernel
theorem dX5_levels_191 : decode cX5_levels 191 = .ok (.aload_n 0, 1) := by decide +kernel
theorem dX5_levels_192 : decode cX5_levels 192 = .ok (.getfield 21, 3) := by decide +kernel
theorem dX5_levels_195 : decode cX5_levels 195 = .ok (.iload 9, 2) := by decide +kernel
theorem dX5_levels_197 : decode cX5_levels 197 = .ok (.iaload, 1) := by decide +kernel
theorem dX5_levels_198 : decode cX5_levels 198 = .ok (.invokestatic 149, 3) := by decide +kernel
theorem dX5_levels_201 : decode cX5_levels 201 = .ok (.iconst 3, 1) := by decide +kernel
theorem dX5_levels_202 : decode cX5_levels 202 = .ok (.iload 8, 2) := by decide +kernel
theorem dX5_levels_204 : decode cX5_levels 204 = .ok (.iconst 1, 1) := by decide +kernel
theorem dX5_levels_205 : decode cX5_levels 205 = .ok (.isub, 1) := by decide +kernel
theorem dX5_levels_206 : decode cX5_levels 206 = .ok (.ishl, 1) := by decide +kernel
theorem dX5_levels_207 : decode cX5_levels 207 = .ok (.if_icmp .le 10, 3) := by decide +kernel
theorem dX5_levels_210 : decode cX5_levels 210 = .ok (.iload 8, 2) := by decide +kernel
theorem dX5_levels_212 : decode cX5_levels 212 = .ok (.iconst 1, 1) := by decide +kernel
theorem dX5_levels_213 : decode cX5_levels 213 = .ok (.iadd, 1) := by decide +kernel
theorem dX5_levels_214 : decode cX5_levels 214 = .ok (.goto 5, 3) := by decide +kernel
theorem dX5_levels_217 : decode cX5_levels 217 = .ok (.iload 8, 2) := by decide +kernel
theorem dX5_levels_219 : decode cX5_levels 219 = .ok (.istore 8, 2) := by decide +kernel
theorem dX5_levels_221 : decode cX5_levels 221 = .ok (.iinc 9 1, 3) := by decide +kernel
theorem dX5_levels_224 : decode cX5_levels 224 = .ok (.goto (-119), 3) := by decide +kernel
theorem dX5_levels_227 : decode cX5_levels 227 = .ok (.aload_n 0, 1) := by decide +kernel
theorem dX5_levels_228 : decode cX5_levels 228 = .ok (.iload_n 2, 1) := by decide +kernel
theorem dX5_levels_229 : decode cX5_levels 229 = .ok (.iload 6, 2) := by decide +kernel
theorem dX5_levels_231 : decode cX5_levels 231 = .ok (.aload_n 3, 1) := by decide +kernel
theorem dX5_levels_232 : decode cX5_levels 232 = .ok (.iload 4, 2) := by decide +kernel
theorem dX5_levels_234 : decode cX5_levels 234 = .ok (.invokevirtual 155, 3) := by decide +kernel
theorem dX5_levels_237 : decode cX5_levels 237 = .ok (.iload 6, 2) := by decide +kernel
theorem dX5_levels_239 : decode cX5_levels 239 = .ok (.ireturn, 1) := by decide +kernel
def FX5_levels (G : GG) (M : DD) (a : Nat) (p0 : Int32) (p1 : Int32) (p2 : Option Nat) (p3 : Int32) : Option (DD × Int32) :=
  bnd (if p0 = ((3 : Int32)) then (bnd (FX5_fixed G M a ((11 : Int32)) ((6 : Int32))) fun y49 =>
  bnd (if y49.2 = ((3 : Int32)) then (some ((0 : Int32))) else
  (ltt ((y49.2 + ((4 : Int32)))) fun x52 =>
  some (x52))) fun (y50 : Int32) =>
  some (y50, y49.1)) else
  (bnd (if p0 = ((4 : Int32)) then (some ((3 : Int32))) else
  (some (p0))) fun (y46 : Int32) =>
  bnd (FX5_code G M a ((11 : Int32)) y46) fun y47 =>
  some (y47.2, y47.1))) fun (y1 : Int32 × DD) =>
  ltt ((y1.1 >>> (((2 : Int32)) &&& 31))) fun x2 =>
  ltt ((y1.1 &&& ((3 : Int32)))) fun x3 =>
  bnd (if x2 < x3 then (none) else
  (some (y1.2))) fun (y4 : DD) =>
  bnd (if x2 ≤ p1 then (some (y4)) else
  (none)) fun (y5 : DD) =>
  bnd (if x2 ≤ ((10 : Int32)) then (some ((0 : Int32))) else
  (bnd (if ((3 : Int32)) ≤ x3 then (some ((0 : Int32))) else
  (some ((1 : Int32)))) fun (y41 : Int32) =>
  some (y41))) fun (y6 : Int32) =>
  bnd (itr (fun (s8 : Int32 × Int32 × DD) => ((if x2 ≤ s8.2.1 then (some (.inr (s8.1, s8.2.1, s8.2.2))) else
  (bnd (if x3 ≤ s8.2.1 then (bnd (if s8.2.1 = x3 then (bnd (if ((3 : Int32)) ≤ x3 then (some ((0 : Int32))) else
  (some ((1 : Int32)))) fun (y33 : Int32) =>
  some (y33)) else
  (some ((0 : Int32)))) fun (y16 : Int32) =>
  bnd (FX5_oneLevel G s8.2.2 a s8.1 y16) fun y17 =>
  dr G 13 ((s8.2.2.2 a 14)) fun b18 =>
  chk (¬ (s8.2.1 < 0 ∨ G.2.2 b18 ≤ s8.2.1.toNatClampNeg)) <|
  ltt (uI y17.1 b18 s8.2.1.toNatClampNeg y17.2) fun M19 =>
  bnd (if s8.1 = ((0 : Int32)) then (some ((1 : Int32))) else
  (some (s8.1))) fun (y20 : Int32) =>
  bnd (if ((6 : Int32)) ≤ y20 then (some (y20, M19)) else
  (dr G 13 ((M19.2 a 14)) fun b23 =>
  chk (¬ (s8.2.1 < 0 ∨ G.2.2 b23 ≤ s8.2.1.toNatClampNeg)) <|
  ltt (M19.1 b23 s8.2.1.toNatClampNeg) fun x24 =>
  ltt (if (0 : Int32) ≤ x24 then x24 else 0 - x24) fun x25 =>
  ltt ((y20 - ((1 : Int32)))) fun x26 =>
  ltt ((((3 : Int32)) <<< (x26 &&& 31))) fun x27 =>
  bnd (if x25 ≤ x27 then (some (y20)) else
  (ltt ((y20 + ((1 : Int32)))) fun x30 =>
  some (x30))) fun (y28 : Int32) =>
  some (y28, M19))) fun (y21 : Int32 × DD) =>
  some (y21.1, y21.2)) else
  (bnd (FX5_fixed G s8.2.2 a ((12 : Int32)) ((1 : Int32))) fun y35 =>
  ltt ((((2 : Int32)) * y35.2)) fun x36 =>
  ltt ((((1 : Int32)) - x36)) fun x37 =>
  dr G 13 ((s8.2.2.2 a 14)) fun b38 =>
  chk (¬ (s8.2.1 < 0 ∨ G.2.2 b38 ≤ s8.2.1.toNatClampNeg)) <|
  ltt (uI y35.1 b38 s8.2.1.toNatClampNeg x37) fun M39 =>
  some (s8.1, M39))) fun (y13 : Int32 × DD) =>
  ltt (s8.2.1 + (1 : Int32)) fun x14 =>
  some (.inl (y13.1, x14, y13.2)))) : Option ((Int32 × Int32 × DD) ⊕ (Int32 × Int32 × DD)))) 1000000 (y6, (0 : Int32), y5)) fun (y7 : Int32 × Int32 × DD) =>
  bnd (FX5_spread G y7.2.2 a p1 x2 p2 p3) fun y10 =>
  some (y10, x2)
set_option maxHeartbeats 4000000 in
set_option maxRecDepth 100000 in
theorem kX5_levels (l : Launch) (D : va_G) (ct : CT) (ad : Nat → Nat) (Z : Nat → Nat) (G : GG) (M : DD) (sz : Nat) (a : Nat) (p0 : Int32) (p1 : Int32) (p2 : Option Nat) (p3 : Int32) (y : DD × Int32) (hc : a < G.1) (hk : G.2.1 a = 5) (hF : FX5_levels G M a p0 p1 p2 p3 = some y) : Met l yX5_levels wsX5_levels ({ frames := 3, cells := 0, slots := 0, locals := 79 }) (va_Pc [.ref (ad a), .int p0, .int p1, va_re ad p2, .int p3] (kB D ct ad Z G M sz)) (va_Qi (fun (q : Int32) (_ : Unit) => q = y.2) (fun _ t => kE D ct ad G (wA ad G sz) y.1 t) (wA ad G sz)) 0 0 (wA ad G sz) := by
  refine Met.ofW (cc := cX5_levels) (maxL := 10) (ret := (some .int)) (by decide) rfl ?_
  intro p e s m args below meth c s₁ B hml hv
  obtain ⟨rfl, hsz, hP, hK, hD0, hZ, hN⟩ := hv
  have hx := B.exec
  have hb := B.bytes
  have hr := B.returns
  have hts := atoms_spec (ws := wsX5_levels) B.pre
  have hown : s.vm.findClass RX5 = some m.cls := findClass_of_methodNamed B.named
  have hlocks := B.notSynchronized
  subst hsz
  have hD := wD_self (sz := s.heap.size) hD0
  have hA9 : ∀ q, s.heap.size ≤ q → wA ad G s.heap.size q := fun q h => Or.inr h
  generalize hAe : wA ad G s.heap.size = A at hD hA9 hZ ⊢
  have hS : va_S A s.heap s.heap [] := va_S.rf
  have hl := lv_entry ([.ref (ad a), .int p0, .int p1, va_re ad p2, .int p3]) (n := 10) (by cases p2 <;> exact Nat.le_of_ble_eq_true rfl)
  rw [lg_entry_eq]
  generalize (lg_sl ([.ref (ad a), .int p0, .int p1, va_re ad p2, .int p3]) ++ List.replicate (10 - (lg_sl ([.ref (ad a), .int p0, .int p1, va_re ad p2, .int p3])).length) Slot.unset).toArray = ls at hl ⊢
  have hl : lv_has ls 10 [(0, .ref (ad a)), (1, .int p0), (2, .int p1), (3, va_re ad p2), (4, .int p3)] := by have e9 : lv_args 0 [.ref (ad a), .int p0, .int p1, va_re ad p2, .int p3] = [(0, .ref (ad a)), (1, .int p0), (2, .int p1), (3, va_re ad p2), (4, .int p3)] := (by cases p2 <;> rfl); rw [e9] at hl; exact hl
  unfold FX5_levels at hF
  refine lv_iload_n hx hb dX5_levels_0 rfl (lv_at hl 1 rfl) ?_
  refine lv_iconst (v := (3 : Int32)) hx hb dX5_levels_1 (by decide) ?_
  obtain ⟨y1, hy1, hF⟩ := bnd_some hF
  have J1 : ∀ (H : Heap) (locs : List Loc) (ls : Array Slot), va_P D classes (wld ct ad G y1.2) H → va_D A (wld ct ad G y1.2) → va_S A s.heap H locs → lv_has ls 10 [(5, .int y1.1), (0, .ref (ad a)), (1, .int p0), (2, .int p1), (3, va_re ad p2), (4, .int p3)] → W p l e (headSpec wsX5_levels ({ frames := 3, cells := 0, slots := 0, locals := 79 })).room s m ([.ref (ad a), .int p0, .int p1, va_re ad p2, .int p3] : List Value).toArray below meth c H locs 0 0 (MQ below (va_Qi (fun (q : Int32) (_ : Unit) => q = y.2) (fun _ t => kE D ct ad G A y.1 t) A) ([.ref (ad a), .int p0, .int p1, va_re ad p2, .int p3] : List Value).toArray s 0 0 A) (F0 m 52 ls []) := by
    intro H locs ls hP hD hS hl
    refine lv_iload hx hb dX5_levels_52 (lv_at hl 0 rfl) ?_
    refine lv_iconst (v := (2 : Int32)) hx hb dX5_levels_54 (by decide) ?_
    refine lv_ishr hx hb dX5_levels_55 ?_
    obtain ⟨x2, ex2, hF⟩ := ltt_some hF
    refine lv_topi (fun zx2 ezx2 => ?_)
    obtain rfl : x2 = zx2 := ex2.trans ezx2.symm
    refine lv_istore (lv' := [(6, .int x2), (5, .int y1.1), (0, .ref (ad a)), (1, .int p0), (2, .int p1), (3, va_re ad p2), (4, .int p3)]) hx hb dX5_levels_56 hl (by decide) rfl (fun ls hl => ?_)
    refine lv_iload hx hb dX5_levels_58 (lv_at hl 1 rfl) ?_
    refine lv_iconst (v := (3 : Int32)) hx hb dX5_levels_60 (by decide) ?_
    refine lv_iand hx hb dX5_levels_61 ?_
    obtain ⟨x3, ex3, hF⟩ := ltt_some hF
    refine lv_topi (fun zx3 ezx3 => ?_)
    obtain rfl : x3 = zx3 := ex3.trans ezx3.symm
    refine lv_istore (lv' := [(7, .int x3), (6, .int x2), (5, .int y1.1), (0, .ref (ad a)), (1, .int p0), (2, .int p1), (3, va_re ad p2), (4, .int p3)]) hx hb dX5_levels_62 hl (by decide) rfl (fun ls hl => ?_)
    refine lv_iload hx hb dX5_levels_64 (lv_at hl 0 rfl) ?_
    refine lv_iload hx hb dX5_levels_66 (lv_at hl 1 rfl) ?_
    obtain ⟨y4, hy4, hF⟩ := bnd_some hF
    have J4 : ∀ (H : Heap) (locs : List Loc) (ls : Array Slot), va_P D classes (wld ct ad G y4) H → va_D A (wld ct ad G y4) → va_S A s.heap H locs → lv_has ls 10 [(7, .int x3), (6, .int x2), (5, .int y1.1), (0, .ref (ad a)), (1, .int p0), (2, .int p1), (3, va_re ad p2), (4, .int p3)] → W p l e (headSpec wsX5_levels ({ frames := 3, cells := 0, slots := 0, locals := 79 })).room s m ([.ref (ad a), .int p0, .int p1, va_re ad p2, .int p3] : List Value).toArray below meth c H locs 0 0 (MQ below (va_Qi (fun (q : Int32) (_ : Unit) => q = y.2) (fun _ t => kE D ct ad G A y.1 t) A) ([.ref (ad a), .int p0, .int p1, va_re ad p2, .int p3] : List Value).toArray s 0 0 A) (F0 m 71 ls []) := by
      intro H locs ls hP hD hS hl
      refine lv_iload hx hb dX5_levels_71 (lv_at hl 1 rfl) ?_
      refine lv_iload_n hx hb dX5_levels_73 rfl (lv_at hl 5 rfl) ?_
      obtain ⟨y5, hy5, hF⟩ := bnd_some hF
      have J5 : ∀ (H : Heap) (locs : List Loc) (ls : Array Slot), va_P D classes (wld ct ad G y5) H → va_D A (wld ct ad G y5) → va_S A s.heap H locs → lv_has ls 10 [(7, .int x3), (6, .int x2), (5, .int y1.1), (0, .ref (ad a)), (1, .int p0), (2, .int p1), (3, va_re ad p2), (4, .int p3)] → W p l e (headSpec wsX5_levels ({ frames := 3, cells := 0, slots := 0, locals := 79 })).room s m ([.ref (ad a), .int p0, .int p1, va_re ad p2, .int p3] : List Value).toArray below meth c H locs 0 0 (MQ below (va_Qi (fun (q : Int32) (_ : Unit) => q = y.2) (fun _ t => kE D ct ad G A y.1 t) A) ([.ref (ad a), .int p0, .int p1, va_re ad p2, .int p3] : List Value).toArray s 0 0 A) (F0 m 82 ls []) := by
        intro H locs ls hP hD hS hl
        refine lv_iload hx hb dX5_levels_82 (lv_at hl 1 rfl) ?_
        refine lv_bipush (v := (10 : Int32)) hx hb dX5_levels_84 (by decide) ?_
        obtain ⟨y6, hy6, hF⟩ := bnd_some hF
        have J6 : ∀ (H : Heap) (locs : List Loc) (ls : Array Slot), va_P D classes (wld ct ad G y5) H → va_D A (wld ct ad G y5) → va_S A s.heap H locs → lv_has ls 10 [(7, .int x3), (6, .int x2), (5, .int y1.1), (0, .ref (ad a)), (1, .int p0), (2, .int p1), (3, va_re ad p2), (4, .int p3)] → W p l e (headSpec wsX5_levels ({ frames := 3, cells := 0, slots := 0, locals := 79 })).room s m ([.ref (ad a), .int p0, .int p1, va_re ad p2, .int p3] : List Value).toArray below meth c H locs 0 0 (MQ below (va_Qi (fun (q : Int32) (_ : Unit) => q = y.2) (fun _ t => kE D ct ad G A y.1 t) A) ([.ref (ad a), .int p0, .int p1, va_re ad p2, .int p3] : List Value).toArray s 0 0 A) (F0 m 100 ls [.int y6]) := by
          intro H locs ls hP hD hS hl
          refine lv_istore (lv' := [(8, .int y6), (7, .int x3), (6, .int x2), (5, .int y1.1), (0, .ref (ad a)), (1, .int p0), (2, .int p1), (3, va_re ad p2), (4, .int p3)]) hx hb dX5_levels_100 hl (by decide) rfl (fun ls hl => ?_)
          refine lv_iconst (v := (0 : Int32)) hx hb dX5_levels_102 (by decide) ?_
          refine lv_istore (lv' := [(9, .int (0 : Int32)), (8, .int y6), (7, .int x3), (6, .int x2), (5, .int y1.1), (0, .ref (ad a)), (1, .int p0), (2, .int p1), (3, va_re ad p2), (4, .int p3)]) hx hb dX5_levels_103 hl (by decide) rfl (fun ls hl => ?_)
          obtain ⟨y7, hy7, hF⟩ := bnd_some hF
          have K7 : ∀ (H : Heap) (locs : List Loc) (ls : Array Slot), va_P D classes (wld ct ad G y7.2.2) H → va_D A (wld ct ad G y7.2.2) → va_S A s.heap H locs → lv_has ls 10 [(9, .int y7.2.1), (8, .int y7.1), (7, .int x3), (6, .int x2), (5, .int y1.1), (0, .ref (ad a)), (1, .int p0), (2, .int p1), (3, va_re ad p2), (4, .int p3)] → W p l e (headSpec wsX5_levels ({ frames := 3, cells := 0, slots := 0, locals := 79 })).room s m ([.ref (ad a), .int p0, .int p1, va_re ad p2, .int p3] : List Value).toArray below meth c H locs 0 0 (MQ below (va_Qi (fun (q : Int32) (_ : Unit) => q = y.2) (fun _ t => kE D ct ad G A y.1 t) A) ([.ref (ad a), .int p0, .int p1, va_re ad p2, .int p3] : List Value).toArray s 0 0 A) (F0 m 227 ls []) := by
            intro H locs ls hP hD hS hl
            refine lv_aload_n hx hb dX5_levels_227 rfl (lv_at hl 5 rfl) ?_
            refine lv_iload_n hx hb dX5_levels_228 rfl (lv_at hl 7 rfl) ?_
            refine lv_iload hx hb dX5_levels_229 (lv_at hl 3 rfl) ?_
            refine lv_aloadq_n hx hb dX5_levels_231 rfl (lv_at hl 8 rfl) ?_
            refine lv_iload hx hb dX5_levels_232 (lv_at hl 9 rfl) ?_
            obtain ⟨y10, hy10, hF⟩ := bnd_some hF
            have hf9 := wA_in hD hA9 hS
            refine va_callv (va_runV (As := [.int p1, .int x2, va_re ad p2, .int p3]) (rest := []) ⟨hx, hb, hml, hown, hts⟩ (kX5_spread l D ct ad Z G y7.2.2 H.size a p1 x2 p2 p3 y10 hc hk hy10) (cwV 4 hts gX5_levels_X5_spread rfl rfl rfl (by decide +kernel) ⟨Nat.le_of_ble_eq_true rfl, Nat.le_of_ble_eq_true rfl⟩) ⟨fun a U g mk q => by obtain ⟨q0, q1, qP, qK, qD, qZ, qN⟩ := q; exact ⟨q0, q1, qP, va_K.moved (u := U) (U := U.calling g mk a) (Vm.Alike.refl U.vm) qK, qD, sF.moved (u := U) (U := U.calling g mk a) (Vm.Alike.refl U.vm) qZ, nF.same rfl qN⟩, va_recv hK hP (ci := 5) (q0 := a) rfl (wld_o ct ad G y7.2.2 hc hk (by decide)), fun U hU hW => ⟨rfl, by rw [hU], by rw [hU]; exact hP, va_K.moved hW.alike hK, hD.weaken (fun _ _ _ _ => trivial), by rw [hU]; exact ((hZ.kept hS.2.1).narrow hf9).moved hW.alike, hN.warm hW⟩⟩ rfl rfl hl.1 rfl (lv_room (Nat.le_of_ble_eq_true rfl)) dX5_levels_234 ⟨(Nat.zero_le _), (Nat.zero_le _)⟩) hS (fun q _ h => hf9 q h) hf9 (fun u t H locs ht hvm hw hB hz1 hk1 hS => ?_)
            obtain ⟨hP, hK9, hD9⟩ := hB
            rw [ht] at hP
            have hD := hD9.weaken (fun _ q _ h => hf9 q.1 h)
            refine lv_iload hx hb dX5_levels_237 (lv_at hl 3 rfl) ?_
            obtain rfl := Option.some.inj hF
            exact W.iret (v := x2) hx hb hr (fun t ht hW => ⟨⟨_, (), rfl, rfl, ⟨by rw [ht]; exact hP, va_K.moved hW.alike hK, hD⟩⟩, hS.F ht⟩) hS.2.2 dX5_levels_239
          clear hF
          refine itr_rule (fun (s8 : Int32 × Int32 × DD) => ∀ (H : Heap) (locs : List Loc) (ls : Array Slot), va_P D classes (wld ct ad G s8.2.2) H → va_D A (wld ct ad G s8.2.2) → va_S A s.heap H locs → lv_has ls 10 [(9, .int s8.2.1), (8, .int s8.1), (7, .int x3), (6, .int x2), (5, .int y1.1), (0, .ref (ad a)), (1, .int p0), (2, .int p1), (3, va_re ad p2), (4, .int p3)] → W p l e (headSpec wsX5_levels ({ frames := 3, cells := 0, slots := 0, locals := 79 })).room s m ([.ref (ad a), .int p0, .int p1, va_re ad p2, .int p3] : List Value).toArray below meth c H locs 0 0 (MQ below (va_Qi (fun (q : Int32) (_ : Unit) => q = y.2) (fun _ t => kE D ct ad G A y.1 t) A) ([.ref (ad a), .int p0, .int p1, va_re ad p2, .int p3] : List Value).toArray s 0 0 A) (F0 m 105 ls [])) ?_ _ _ hy7 _ _ _ hP hD hS (lv_sub hl [0, 1, 2, 3, 4, 5, 6, 7, 8, 9] rfl)
          rintro s8 ⟨z11, hF, hwz11⟩ H locs ls hP hD hS hl
          try dsimp only at hF
          refine lv_iload hx hb dX5_levels_105 (lv_at hl 0 rfl) ?_
          refine lv_iload hx hb dX5_levels_107 (lv_at hl 3 rfl) ?_
          refine lv_icmp_ge (tgt := 227) hx hb dX5_levels_109 (by decide) (fun c12 => ?_) (fun c12 => ?_)
          · rw [if_pos c12] at hF
            obtain rfl := Option.some.inj hF
            subst hwz11
            exact K7 _ _ _ hP hD hS (lv_sub hl [0, 1, 2, 3, 4, 5, 6, 7, 8, 9] rfl)
          · rw [if_neg c12] at hF
            refine lv_iload hx hb dX5_levels_112 (lv_at hl 0 rfl) ?_
            refine lv_iload hx hb dX5_levels_114 (lv_at hl 2 rfl) ?_
            obtain ⟨y13, hy13, hF⟩ := bnd_some hF
            have J13 : ∀ (H : Heap) (locs : List Loc) (ls : Array Slot), va_P D classes (wld ct ad G y13.2) H → va_D A (wld ct ad G y13.2) → va_S A s.heap H locs → lv_has ls 10 [(9, .int s8.2.1), (8, .int y13.1), (7, .int x3), (6, .int x2), (5, .int y1.1), (0, .ref (ad a)), (1, .int p0), (2, .int p1), (3, va_re ad p2), (4, .int p3)] → W p l e (headSpec wsX5_levels ({ frames := 3, cells := 0, slots := 0, locals := 79 })).room s m ([.ref (ad a), .int p0, .int p1, va_re ad p2, .int p3] : List Value).toArray below meth c H locs 0 0 (MQ below (va_Qi (fun (q : Int32) (_ : Unit) => q = y.2) (fun _ t => kE D ct ad G A y.1 t) A) ([.ref (ad a), .int p0, .int p1, va_re ad p2, .int p3] : List Value).toArray s 0 0 A) (F0 m 221 ls []) := by
              intro H locs ls hP hD hS hl
              obtain ⟨x14, ex14, hF⟩ := ltt_some hF
              refine lv_iinc (v := x14) (lv' := [(9, .int x14), (8, .int y13.1), (7, .int x3), (6, .int x2), (5, .int y1.1), (0, .ref (ad a)), (1, .int p0), (2, .int p1), (3, va_re ad p2), (4, .int p3)]) hx hb dX5_levels_221 hl (k := 0) rfl (by rw [ex14]; rfl) (by decide) rfl (fun ls hl => ?_)
              refine lv_goto (tgt := 105) hx hb dX5_levels_224 (by decide) ?_
              obtain rfl := Option.some.inj hF
              exact hwz11 _ _ _ hP hD hS (lv_sub hl [0, 1, 2, 3, 4, 5, 6, 7, 8, 9] rfl)
            clear hF
            have hF := hy13
            clear hy13
            refine lv_icmp_ge (tgt := 140) hx hb dX5_levels_116 (by decide) (fun c15 => ?_) (fun c15 => ?_)
            · rw [if_pos c15] at hF
              refine lv_aload_n hx hb dX5_levels_140 rfl (lv_at hl 5 rfl) ?_
              refine va_get (D := D) (ci := 5) (v := va_re ad (s8.2.2.2 a 14)) (C := RX5) (T := TX5) (N := 17) hx hb hts (by decide +kernel) hown hK hP a (wld_o ct ad G s8.2.2 hc hk (by decide)) rfl 14 (by decide) (hts (.fieldLink RX5 21 "VideoSuite$Reader" "size" "[I") (by decide +kernel)) (fun _ h9 => h9) rfl dX5_levels_141 ?_
              refine lv_iload hx hb dX5_levels_144 (lv_at hl 0 rfl) ?_
              refine lv_aload_n hx hb dX5_levels_146 rfl (lv_at hl 5 rfl) ?_
              refine lv_iload hx hb dX5_levels_147 (lv_at hl 1 rfl) ?_
              refine lv_iload hx hb dX5_levels_149 (lv_at hl 0 rfl) ?_
              refine lv_iload hx hb dX5_levels_151 (lv_at hl 2 rfl) ?_
              obtain ⟨y16, hy16, hF⟩ := bnd_some hF
              have J16 : ∀ (H : Heap) (locs : List Loc) (ls : Array Slot), va_P D classes (wld ct ad G s8.2.2) H → va_D A (wld ct ad G s8.2.2) → va_S A s.heap H locs → lv_has ls 10 [(9, .int s8.2.1), (8, .int s8.1), (7, .int x3), (6, .int x2), (5, .int y1.1), (0, .ref (ad a)), (1, .int p0), (2, .int p1), (3, va_re ad p2), (4, .int p3)] → W p l e (headSpec wsX5_levels ({ frames := 3, cells := 0, slots := 0, locals := 79 })).room s m ([.ref (ad a), .int p0, .int p1, va_re ad p2, .int p3] : List Value).toArray below meth c H locs 0 0 (MQ below (va_Qi (fun (q : Int32) (_ : Unit) => q = y.2) (fun _ t => kE D ct ad G A y.1 t) A) ([.ref (ad a), .int p0, .int p1, va_re ad p2, .int p3] : List Value).toArray s 0 0 A) (F0 m 167 ls [.int y16, .int s8.1, .ref (ad a), .int s8.2.1, va_re ad (s8.2.2.2 a 14)]) := by
                intro H locs ls hP hD hS hl
                obtain ⟨y17, hy17, hF⟩ := bnd_some hF
                have hf9 := wA_in hD hA9 hS
                refine va_calli (va_runV (As := [.int s8.1, .int y16]) (rest := [.int s8.2.1, va_re ad (s8.2.2.2 a 14)]) ⟨hx, hb, hml, hown, hts⟩ (kX5_oneLevel l D ct ad Z G s8.2.2 H.size a s8.1 y16 y17 hc hk hy17) (cwV 2 hts gX5_levels_X5_oneLevel rfl rfl rfl (by decide +kernel) ⟨Nat.le_of_ble_eq_true rfl, Nat.le_of_ble_eq_true rfl⟩) ⟨fun a U g mk q => by obtain ⟨q0, q1, qP, qK, qD, qZ, qN⟩ := q; exact ⟨q0, q1, qP, va_K.moved (u := U) (U := U.calling g mk a) (Vm.Alike.refl U.vm) qK, qD, sF.moved (u := U) (U := U.calling g mk a) (Vm.Alike.refl U.vm) qZ, nF.same rfl qN⟩, va_recv hK hP (ci := 5) (q0 := a) rfl (wld_o ct ad G s8.2.2 hc hk (by decide)), fun U hU hW => ⟨rfl, by rw [hU], by rw [hU]; exact hP, va_K.moved hW.alike hK, hD.weaken (fun _ _ _ _ => trivial), by rw [hU]; exact ((hZ.kept hS.2.1).narrow hf9).moved hW.alike, hN.warm hW⟩⟩ rfl rfl hl.1 rfl (lv_room (by simp only [List.map, va_re_cat]; exact Nat.le_of_ble_eq_true rfl)) dX5_levels_167 ⟨(Nat.zero_le _), (Nat.zero_le _)⟩) hS (fun q _ h => hf9 q h) hf9 (fun r u t H locs ht hvm hw hB hz1 hk1 hS => ?_)
                obtain ⟨hP, hK9, hD9⟩ := hB
                rw [ht] at hP
                try dsimp only at hw
                subst hw
                have hD := hD9.weaken (fun _ q _ h => hf9 q.1 h)
                obtain ⟨b18, ho18, hc18, hk18, hF⟩ := dr_some hF
                refine W_st (st' := [.int y17.2, .int s8.2.1, .ref (ad b18)]) (by rw [va_some ho18]) ?_
                obtain ⟨hvc, hF⟩ := chk_some hF
                refine va_iast hx hb hK hP hD hS b18 1 (wld_i ct ad G y17.1 hc18 hk18) rfl hvc dX5_levels_170 (fun H locs hP hD hS => ?_)
                obtain ⟨M19, eM19, hF⟩ := ltt_some hF
                rw [set_i ct ad G y17.1 hc18 hk18, ← eM19] at hP hD
                refine lv_iload hx hb dX5_levels_171 (lv_at hl 1 rfl) ?_
                obtain ⟨y20, hy20, hF⟩ := bnd_some hF
                have J20 : ∀ (H : Heap) (locs : List Loc) (ls : Array Slot), va_P D classes (wld ct ad G M19) H → va_D A (wld ct ad G M19) → va_S A s.heap H locs → lv_has ls 10 [(9, .int s8.2.1), (8, .int s8.1), (7, .int x3), (6, .int x2), (5, .int y1.1), (0, .ref (ad a)), (1, .int p0), (2, .int p1), (3, va_re ad p2), (4, .int p3)] → W p l e (headSpec wsX5_levels ({ frames := 3, cells := 0, slots := 0, locals := 79 })).room s m ([.ref (ad a), .int p0, .int p1, va_re ad p2, .int p3] : List Value).toArray below meth c H locs 0 0 (MQ below (va_Qi (fun (q : Int32) (_ : Unit) => q = y.2) (fun _ t => kE D ct ad G A y.1 t) A) ([.ref (ad a), .int p0, .int p1, va_re ad p2, .int p3] : List Value).toArray s 0 0 A) (F0 m 182 ls [.int y20]) := by
                  intro H locs ls hP hD hS hl
                  refine lv_istore (lv' := [(8, .int y20), (9, .int s8.2.1), (7, .int x3), (6, .int x2), (5, .int y1.1), (0, .ref (ad a)), (1, .int p0), (2, .int p1), (3, va_re ad p2), (4, .int p3)]) hx hb dX5_levels_182 hl (by decide) rfl (fun ls hl => ?_)
                  refine lv_iload hx hb dX5_levels_184 (lv_at hl 0 rfl) ?_
                  refine lv_bipush (v := (6 : Int32)) hx hb dX5_levels_186 (by decide) ?_
                  obtain ⟨y21, hy21, hF⟩ := bnd_some hF
                  have J21 : ∀ (H : Heap) (locs : List Loc) (ls : Array Slot), va_P D classes (wld ct ad G y21.2) H → va_D A (wld ct ad G y21.2) → va_S A s.heap H locs → lv_has ls 10 [(8, .int y20), (9, .int s8.2.1), (7, .int x3), (6, .int x2), (5, .int y1.1), (0, .ref (ad a)), (1, .int p0), (2, .int p1), (3, va_re ad p2), (4, .int p3)] → W p l e (headSpec wsX5_levels ({ frames := 3, cells := 0, slots := 0, locals := 79 })).room s m ([.ref (ad a), .int p0, .int p1, va_re ad p2, .int p3] : List Value).toArray below meth c H locs 0 0 (MQ below (va_Qi (fun (q : Int32) (_ : Unit) => q = y.2) (fun _ t => kE D ct ad G A y.1 t) A) ([.ref (ad a), .int p0, .int p1, va_re ad p2, .int p3] : List Value).toArray s 0 0 A) (F0 m 219 ls [.int y21.1]) := by
                    intro H locs ls hP hD hS hl
                    refine lv_istore (lv' := [(8, .int y21.1), (9, .int s8.2.1), (7, .int x3), (6, .int x2), (5, .int y1.1), (0, .ref (ad a)), (1, .int p0), (2, .int p1), (3, va_re ad p2), (4, .int p3)]) hx hb dX5_levels_219 hl (by decide) rfl (fun ls hl => ?_)
                    obtain rfl := Option.some.inj hF
                    exact J13 _ _ _ hP hD hS (lv_sub hl [1, 0, 2, 3, 4, 5, 6, 7, 8, 9] rfl)
                  clear hF
                  have hF := hy21
                  clear hy21
                  refine lv_icmp_ge (tgt := 217) hx hb dX5_levels_188 (by decide) (fun c22 => ?_) (fun c22 => ?_)
                  · rw [if_pos c22] at hF
                    refine lv_iload hx hb dX5_levels_217 (lv_at hl 0 rfl) ?_
                    obtain rfl := Option.some.inj hF
                    exact J21 _ _ _ hP hD hS (lv_sub hl [0, 1, 2, 3, 4, 5, 6, 7, 8, 9] rfl)
                  · rw [if_neg c22] at hF
                    refine lv_aload_n hx hb dX5_levels_191 rfl (lv_at hl 5 rfl) ?_
                    refine va_get (D := D) (ci := 5) (v := va_re ad (M19.2 a 14)) (C := RX5) (T := TX5) (N := 17) hx hb hts (by decide +kernel) hown hK hP a (wld_o ct ad G M19 hc hk (by decide)) rfl 14 (by decide) (hts (.fieldLink RX5 21 "VideoSuite$Reader" "size" "[I") (by decide +kernel)) (fun _ h9 => h9) rfl dX5_levels_192 ?_
                    refine lv_iload hx hb dX5_levels_195 (lv_at hl 1 rfl) ?_
                    obtain ⟨b23, ho23, hc23, hk23, hF⟩ := dr_some hF
                    refine W_st (st' := [.int s8.2.1, .ref (ad b23)]) (by rw [va_some ho23]) ?_
                    obtain ⟨hvc, hF⟩ := chk_some hF
                    refine va_iald hx hb hK hP b23 1 (wld_i ct ad G M19 hc23 hk23) rfl hvc dX5_levels_197 ?_
                    obtain ⟨x24, ex24, hF⟩ := ltt_some hF
                    refine lv_topi (fun zx24 ezx24 => ?_)
                    obtain rfl : x24 = zx24 := ex24.trans ezx24.symm
                    refine va_mabs hx hb (hml.trans hl.1.symm) hown (hts (.methodLink RX5 149 Lib.Math.abs.name) (by decide +kernel)) (hts (.static Lib.Math.abs.name) (by decide +kernel)) (hts (.initialized "java/lang/Math") (by decide +kernel)) (hts (.code Lib.Math.abs.name Lib.Math.abs.code 1 (some .int)) (by decide +kernel)) (Nat.le_of_ble_eq_true rfl) (Nat.le_of_ble_eq_true rfl) (Nat.zero_le _) (Nat.zero_le _) dX5_levels_198 ?_
                    obtain ⟨x25, ex25, hF⟩ := ltt_some hF
                    refine lv_topi (fun zx25 ezx25 => ?_)
                    obtain rfl : x25 = zx25 := ex25.trans ezx25.symm
                    refine lv_iconst (v := (3 : Int32)) hx hb dX5_levels_201 (by decide) ?_
                    refine lv_iload hx hb dX5_levels_202 (lv_at hl 0 rfl) ?_
                    refine lv_iconst (v := (1 : Int32)) hx hb dX5_levels_204 (by decide) ?_
                    refine lv_isub hx hb dX5_levels_205 ?_
                    obtain ⟨x26, ex26, hF⟩ := ltt_some hF
                    refine lv_topi (fun zx26 ezx26 => ?_)
                    obtain rfl : x26 = zx26 := ex26.trans ezx26.symm
                    refine lv_ishl hx hb dX5_levels_206 ?_
                    obtain ⟨x27, ex27, hF⟩ := ltt_some hF
                    refine lv_topi (fun zx27 ezx27 => ?_)
                    obtain rfl : x27 = zx27 := ex27.trans ezx27.symm
                    obtain ⟨y28, hy28, hF⟩ := bnd_some hF
                    have J28 : ∀ (H : Heap) (locs : List Loc) (ls : Array Slot), va_P D classes (wld ct ad G M19) H → va_D A (wld ct ad G M19) → va_S A s.heap H locs → lv_has ls 10 [(8, .int y20), (9, .int s8.2.1), (7, .int x3), (6, .int x2), (5, .int y1.1), (0, .ref (ad a)), (1, .int p0), (2, .int p1), (3, va_re ad p2), (4, .int p3)] → W p l e (headSpec wsX5_levels ({ frames := 3, cells := 0, slots := 0, locals := 79 })).room s m ([.ref (ad a), .int p0, .int p1, va_re ad p2, .int p3] : List Value).toArray below meth c H locs 0 0 (MQ below (va_Qi (fun (q : Int32) (_ : Unit) => q = y.2) (fun _ t => kE D ct ad G A y.1 t) A) ([.ref (ad a), .int p0, .int p1, va_re ad p2, .int p3] : List Value).toArray s 0 0 A) (F0 m 219 ls [.int y28]) := by
                      intro H locs ls hP hD hS hl
                      obtain rfl := Option.some.inj hF
                      exact J21 _ _ _ hP hD hS (lv_sub hl [0, 1, 2, 3, 4, 5, 6, 7, 8, 9] rfl)
                    clear hF
                    have hF := hy28
                    clear hy28
                    refine lv_icmp_le (tgt := 217) hx hb dX5_levels_207 (by decide) (fun c29 => ?_) (fun c29 => ?_)
                    · rw [if_pos c29] at hF
                      refine lv_iload hx hb dX5_levels_217 (lv_at hl 0 rfl) ?_
                      obtain rfl := Option.some.inj hF
                      exact J28 _ _ _ hP hD hS (lv_sub hl [0, 1, 2, 3, 4, 5, 6, 7, 8, 9] rfl)
                    · rw [if_neg c29] at hF
                      refine lv_iload hx hb dX5_levels_210 (lv_at hl 0 rfl) ?_
                      refine lv_iconst (v := (1 : Int32)) hx hb dX5_levels_212 (by decide) ?_
                      refine lv_iadd hx hb dX5_levels_213 ?_
                      obtain ⟨x30, ex30, hF⟩ := ltt_some hF
                      refine lv_topi (fun zx30 ezx30 => ?_)
                      obtain rfl : x30 = zx30 := ex30.trans ezx30.symm
                      refine lv_goto (tgt := 219) hx hb dX5_levels_214 (by decide) ?_
                      obtain rfl := Option.some.inj hF
                      exact J28 _ _ _ hP hD hS (lv_sub hl [0, 1, 2, 3, 4, 5, 6, 7, 8, 9] rfl)
                clear hF
                have hF := hy20
                clear hy20
                refine lv_if_ne (tgt := 180) hx hb dX5_levels_173 (by decide) (fun c31 => ?_) (fun c31 => ?_)
                · rw [if_neg c31] at hF
                  refine lv_iload hx hb dX5_levels_180 (lv_at hl 1 rfl) ?_
                  obtain rfl := Option.some.inj hF
                  exact J20 _ _ _ hP hD hS (lv_sub hl [0, 1, 2, 3, 4, 5, 6, 7, 8, 9] rfl)
                · rw [if_pos c31] at hF
                  refine lv_iconst (v := (1 : Int32)) hx hb dX5_levels_176 (by decide) ?_
                  refine lv_goto (tgt := 182) hx hb dX5_levels_177 (by decide) ?_
                  obtain rfl := Option.some.inj hF
                  exact J20 _ _ _ hP hD hS (lv_sub hl [0, 1, 2, 3, 4, 5, 6, 7, 8, 9] rfl)
              clear hF
              have hF := hy16
              clear hy16
              refine lv_icmp_ne (tgt := 166) hx hb dX5_levels_153 (by decide) (fun c32 => ?_) (fun c32 => ?_)
              · rw [if_neg c32] at hF
                refine lv_iconst (v := (0 : Int32)) hx hb dX5_levels_166 (by decide) ?_
                obtain rfl := Option.some.inj hF
                exact J16 _ _ _ hP hD hS (lv_sub hl [0, 1, 2, 3, 4, 5, 6, 7, 8, 9] rfl)
              · rw [if_pos c32] at hF
                refine lv_iload hx hb dX5_levels_156 (lv_at hl 2 rfl) ?_
                refine lv_iconst (v := (3 : Int32)) hx hb dX5_levels_158 (by decide) ?_
                obtain ⟨y33, hy33, hF⟩ := bnd_some hF
                have J33 : ∀ (H : Heap) (locs : List Loc) (ls : Array Slot), va_P D classes (wld ct ad G s8.2.2) H → va_D A (wld ct ad G s8.2.2) → va_S A s.heap H locs → lv_has ls 10 [(9, .int s8.2.1), (8, .int s8.1), (7, .int x3), (6, .int x2), (5, .int y1.1), (0, .ref (ad a)), (1, .int p0), (2, .int p1), (3, va_re ad p2), (4, .int p3)] → W p l e (headSpec wsX5_levels ({ frames := 3, cells := 0, slots := 0, locals := 79 })).room s m ([.ref (ad a), .int p0, .int p1, va_re ad p2, .int p3] : List Value).toArray below meth c H locs 0 0 (MQ below (va_Qi (fun (q : Int32) (_ : Unit) => q = y.2) (fun _ t => kE D ct ad G A y.1 t) A) ([.ref (ad a), .int p0, .int p1, va_re ad p2, .int p3] : List Value).toArray s 0 0 A) (F0 m 167 ls [.int y33, .int s8.1, .ref (ad a), .int s8.2.1, va_re ad (s8.2.2.2 a 14)]) := by
                  intro H locs ls hP hD hS hl
                  obtain rfl := Option.some.inj hF
                  exact J16 _ _ _ hP hD hS (lv_sub hl [0, 1, 2, 3, 4, 5, 6, 7, 8, 9] rfl)
                clear hF
                have hF := hy33
                clear hy33
                refine lv_icmp_ge (tgt := 166) hx hb dX5_levels_159 (by decide) (fun c34 => ?_) (fun c34 => ?_)
                · rw [if_pos c34] at hF
                  refine lv_iconst (v := (0 : Int32)) hx hb dX5_levels_166 (by decide) ?_
                  obtain rfl := Option.some.inj hF
                  exact J33 _ _ _ hP hD hS (lv_sub hl [0, 1, 2, 3, 4, 5, 6, 7, 8, 9] rfl)
                · rw [if_neg c34] at hF
                  refine lv_iconst (v := (1 : Int32)) hx hb dX5_levels_162 (by decide) ?_
                  refine lv_goto (tgt := 167) hx hb dX5_levels_163 (by decide) ?_
                  obtain rfl := Option.some.inj hF
                  exact J33 _ _ _ hP hD hS (lv_sub hl [0, 1, 2, 3, 4, 5, 6, 7, 8, 9] rfl)
            · rw [if_neg c15] at hF
              refine lv_aload_n hx hb dX5_levels_119 rfl (lv_at hl 5 rfl) ?_
              refine va_get (D := D) (ci := 5) (v := va_re ad (s8.2.2.2 a 14)) (C := RX5) (T := TX5) (N := 17) hx hb hts (by decide +kernel) hown hK hP a (wld_o ct ad G s8.2.2 hc hk (by decide)) rfl 14 (by decide) (hts (.fieldLink RX5 21 "VideoSuite$Reader" "size" "[I") (by decide +kernel)) (fun _ h9 => h9) rfl dX5_levels_120 ?_
              refine lv_iload hx hb dX5_levels_123 (lv_at hl 0 rfl) ?_
              refine lv_iconst (v := (1 : Int32)) hx hb dX5_levels_125 (by decide) ?_
              refine lv_iconst (v := (2 : Int32)) hx hb dX5_levels_126 (by decide) ?_
              refine lv_aload_n hx hb dX5_levels_127 rfl (lv_at hl 5 rfl) ?_
              refine lv_bipush (v := (12 : Int32)) hx hb dX5_levels_128 (by decide) ?_
              refine lv_iconst (v := (1 : Int32)) hx hb dX5_levels_130 (by decide) ?_
              obtain ⟨y35, hy35, hF⟩ := bnd_some hF
              have hf9 := wA_in hD hA9 hS
              refine va_calli (va_runV (As := [.int (12 : Int32), .int (1 : Int32)]) (rest := [.int (2 : Int32), .int (1 : Int32), .int s8.2.1, va_re ad (s8.2.2.2 a 14)]) ⟨hx, hb, hml, hown, hts⟩ (kX5_fixed l D ct ad Z G s8.2.2 H.size a ((12 : Int32)) ((1 : Int32)) y35 hc hk hy35) (cwV 2 hts gX5_levels_X5_fixed rfl rfl rfl (by decide +kernel) ⟨Nat.le_of_ble_eq_true rfl, Nat.le_of_ble_eq_true rfl⟩) ⟨fun a U g mk q => by obtain ⟨q0, q1, qP, qK, qD, qZ, qN⟩ := q; exact ⟨q0, q1, qP, va_K.moved (u := U) (U := U.calling g mk a) (Vm.Alike.refl U.vm) qK, qD, sF.moved (u := U) (U := U.calling g mk a) (Vm.Alike.refl U.vm) qZ, nF.same rfl qN⟩, va_recv hK hP (ci := 5) (q0 := a) rfl (wld_o ct ad G s8.2.2 hc hk (by decide)), fun U hU hW => ⟨rfl, by rw [hU], by rw [hU]; exact hP, va_K.moved hW.alike hK, hD.weaken (fun _ _ _ _ => trivial), by rw [hU]; exact ((hZ.kept hS.2.1).narrow hf9).moved hW.alike, hN.warm hW⟩⟩ rfl rfl hl.1 rfl (lv_room (by simp only [List.map, va_re_cat]; exact Nat.le_of_ble_eq_true rfl)) dX5_levels_131 ⟨(Nat.zero_le _), (Nat.zero_le _)⟩) hS (fun q _ h => hf9 q h) hf9 (fun r u t H locs ht hvm hw hB hz1 hk1 hS => ?_)
              obtain ⟨hP, hK9, hD9⟩ := hB
              rw [ht] at hP
              try dsimp only at hw
              subst hw
              have hD := hD9.weaken (fun _ q _ h => hf9 q.1 h)
              refine lv_imul hx hb dX5_levels_134 ?_
              obtain ⟨x36, ex36, hF⟩ := ltt_some hF
              refine lv_topi (fun zx36 ezx36 => ?_)
              obtain rfl : x36 = zx36 := ex36.trans ezx36.symm
              refine lv_isub hx hb dX5_levels_135 ?_
              obtain ⟨x37, ex37, hF⟩ := ltt_some hF
              refine lv_topi (fun zx37 ezx37 => ?_)
              obtain rfl : x37 = zx37 := ex37.trans ezx37.symm
              obtain ⟨b38, ho38, hc38, hk38, hF⟩ := dr_some hF
              refine W_st (st' := [.int x37, .int s8.2.1, .ref (ad b38)]) (by rw [va_some ho38]) ?_
              obtain ⟨hvc, hF⟩ := chk_some hF
              refine va_iast hx hb hK hP hD hS b38 1 (wld_i ct ad G y35.1 hc38 hk38) rfl hvc dX5_levels_136 (fun H locs hP hD hS => ?_)
              obtain ⟨M39, eM39, hF⟩ := ltt_some hF
              rw [set_i ct ad G y35.1 hc38 hk38, ← eM39] at hP hD
              refine lv_goto (tgt := 221) hx hb dX5_levels_137 (by decide) ?_
              obtain rfl := Option.some.inj hF
              exact J13 _ _ _ hP hD hS (lv_sub hl [0, 1, 2, 3, 4, 5, 6, 7, 8, 9] rfl)
        clear hF
        have hF := hy6
        clear hy6
        refine lv_icmp_le (tgt := 99) hx hb dX5_levels_86 (by decide) (fun c40 => ?_) (fun c40 => ?_)
        · rw [if_pos c40] at hF
          refine lv_iconst (v := (0 : Int32)) hx hb dX5_levels_99 (by decide) ?_
          obtain rfl := Option.some.inj hF
          exact J6 _ _ _ hP hD hS (lv_sub hl [0, 1, 2, 3, 4, 5, 6, 7] rfl)
        · rw [if_neg c40] at hF
          refine lv_iload hx hb dX5_levels_89 (lv_at hl 0 rfl) ?_
          refine lv_iconst (v := (3 : Int32)) hx hb dX5_levels_91 (by decide) ?_
          obtain ⟨y41, hy41, hF⟩ := bnd_some hF
          have J41 : ∀ (H : Heap) (locs : List Loc) (ls : Array Slot), va_P D classes (wld ct ad G y5) H → va_D A (wld ct ad G y5) → va_S A s.heap H locs → lv_has ls 10 [(7, .int x3), (6, .int x2), (5, .int y1.1), (0, .ref (ad a)), (1, .int p0), (2, .int p1), (3, va_re ad p2), (4, .int p3)] → W p l e (headSpec wsX5_levels ({ frames := 3, cells := 0, slots := 0, locals := 79 })).room s m ([.ref (ad a), .int p0, .int p1, va_re ad p2, .int p3] : List Value).toArray below meth c H locs 0 0 (MQ below (va_Qi (fun (q : Int32) (_ : Unit) => q = y.2) (fun _ t => kE D ct ad G A y.1 t) A) ([.ref (ad a), .int p0, .int p1, va_re ad p2, .int p3] : List Value).toArray s 0 0 A) (F0 m 100 ls [.int y41]) := by
            intro H locs ls hP hD hS hl
            obtain rfl := Option.some.inj hF
            exact J6 _ _ _ hP hD hS (lv_sub hl [0, 1, 2, 3, 4, 5, 6, 7] rfl)
          clear hF
          have hF := hy41
          clear hy41
          refine lv_icmp_ge (tgt := 99) hx hb dX5_levels_92 (by decide) (fun c42 => ?_) (fun c42 => ?_)
          · rw [if_pos c42] at hF
            refine lv_iconst (v := (0 : Int32)) hx hb dX5_levels_99 (by decide) ?_
            obtain rfl := Option.some.inj hF
            exact J41 _ _ _ hP hD hS (lv_sub hl [0, 1, 2, 3, 4, 5, 6, 7] rfl)
          · rw [if_neg c42] at hF
            refine lv_iconst (v := (1 : Int32)) hx hb dX5_levels_95 (by decide) ?_
            refine lv_goto (tgt := 100) hx hb dX5_levels_96 (by decide) ?_
            obtain rfl := Option.some.inj hF
            exact J41 _ _ _ hP hD hS (lv_sub hl [0, 1, 2, 3, 4, 5, 6, 7] rfl)
      clear hF
      have hF := hy5
      clear hy5
      refine lv_icmp_le (tgt := 82) hx hb dX5_levels_74 (by decide) (fun c43 => ?_) (fun c43 => ?_)
      · rw [if_pos c43] at hF
        obtain rfl := Option.some.inj hF
        exact J5 _ _ _ hP hD hS (lv_sub hl [0, 1, 2, 3, 4, 5, 6, 7] rfl)
      · rw [if_neg c43] at hF
        refine lv_aload_n hx hb dX5_levels_77 rfl (lv_at hl 3 rfl) ?_
        refine lv_iconst (v := (4 : Int32)) hx hb dX5_levels_78 (by decide) ?_
        cases hF
    clear hF
    have hF := hy4
    clear hy4
    refine lv_icmp_gt (tgt := 77) hx hb dX5_levels_68 (by decide) (fun c44 => ?_) (fun c44 => ?_)
    · rw [if_pos c44] at hF
      refine lv_aload_n hx hb dX5_levels_77 rfl (lv_at hl 3 rfl) ?_
      refine lv_iconst (v := (4 : Int32)) hx hb dX5_levels_78 (by decide) ?_
      cases hF
    · rw [if_neg c44] at hF
      obtain rfl := Option.some.inj hF
      exact J4 _ _ _ hP hD hS (lv_sub hl [0, 1, 2, 3, 4, 5, 6, 7] rfl)
  clear hF
  have hF := hy1
  clear hy1
  refine lv_icmp_ne (tgt := 34) hx hb dX5_levels_2 (by decide) (fun c45 => ?_) (fun c45 => ?_)
  · rw [if_neg c45] at hF
    refine lv_aload_n hx hb dX5_levels_34 rfl (lv_at hl 0 rfl) ?_
    refine lv_bipush (v := (11 : Int32)) hx hb dX5_levels_35 (by decide) ?_
    refine lv_iload_n hx hb dX5_levels_37 rfl (lv_at hl 1 rfl) ?_
    refine lv_iconst (v := (4 : Int32)) hx hb dX5_levels_38 (by decide) ?_
    obtain ⟨y46, hy46, hF⟩ := bnd_some hF
    have J46 : ∀ (H : Heap) (locs : List Loc) (ls : Array Slot), va_P D classes (wld ct ad G M) H → va_D A (wld ct ad G M) → va_S A s.heap H locs → lv_has ls 10 [(0, .ref (ad a)), (1, .int p0), (2, .int p1), (3, va_re ad p2), (4, .int p3)] → W p l e (headSpec wsX5_levels ({ frames := 3, cells := 0, slots := 0, locals := 79 })).room s m ([.ref (ad a), .int p0, .int p1, va_re ad p2, .int p3] : List Value).toArray below meth c H locs 0 0 (MQ below (va_Qi (fun (q : Int32) (_ : Unit) => q = y.2) (fun _ t => kE D ct ad G A y.1 t) A) ([.ref (ad a), .int p0, .int p1, va_re ad p2, .int p3] : List Value).toArray s 0 0 A) (F0 m 47 ls [.int y46, .int (11 : Int32), .ref (ad a)]) := by
      intro H locs ls hP hD hS hl
      obtain ⟨y47, hy47, hF⟩ := bnd_some hF
      have hf9 := wA_in hD hA9 hS
      refine va_calli (va_runV (As := [.int (11 : Int32), .int y46]) (rest := []) ⟨hx, hb, hml, hown, hts⟩ (kX5_code l D ct ad Z G M H.size a ((11 : Int32)) y46 y47 hc hk hy47) (cwV 2 hts gX5_levels_X5_code rfl rfl rfl (by decide +kernel) ⟨Nat.le_of_ble_eq_true rfl, Nat.le_of_ble_eq_true rfl⟩) ⟨fun a U g mk q => by obtain ⟨q0, q1, qP, qK, qD, qZ, qN⟩ := q; exact ⟨q0, q1, qP, va_K.moved (u := U) (U := U.calling g mk a) (Vm.Alike.refl U.vm) qK, qD, sF.moved (u := U) (U := U.calling g mk a) (Vm.Alike.refl U.vm) qZ, nF.same rfl qN⟩, va_recv hK hP (ci := 5) (q0 := a) rfl (wld_o ct ad G M hc hk (by decide)), fun U hU hW => ⟨rfl, by rw [hU], by rw [hU]; exact hP, va_K.moved hW.alike hK, hD.weaken (fun _ _ _ _ => trivial), by rw [hU]; exact ((hZ.kept hS.2.1).narrow hf9).moved hW.alike, hN.warm hW⟩⟩ rfl rfl hl.1 rfl (lv_room (Nat.le_of_ble_eq_true rfl)) dX5_levels_47 ⟨(Nat.zero_le _), (Nat.zero_le _)⟩) hS (fun q _ h => hf9 q h) hf9 (fun r u t H locs ht hvm hw hB hz1 hk1 hS => ?_)
      obtain ⟨hP, hK9, hD9⟩ := hB
      rw [ht] at hP
      try dsimp only at hw
      subst hw
      have hD := hD9.weaken (fun _ q _ h => hf9 q.1 h)
      refine lv_istore (lv' := [(5, .int y47.2), (0, .ref (ad a)), (1, .int p0), (2, .int p1), (3, va_re ad p2), (4, .int p3)]) hx hb dX5_levels_50 hl (by decide) rfl (fun ls hl => ?_)
      obtain rfl := Option.some.inj hF
      exact J1 _ _ _ hP hD hS (lv_sub hl [0, 1, 2, 3, 4, 5] rfl)
    clear hF
    have hF := hy46
    clear hy46
    refine lv_icmp_ne (tgt := 46) hx hb dX5_levels_39 (by decide) (fun c48 => ?_) (fun c48 => ?_)
    · rw [if_neg c48] at hF
      refine lv_iload_n hx hb dX5_levels_46 rfl (lv_at hl 1 rfl) ?_
      obtain rfl := Option.some.inj hF
      exact J46 _ _ _ hP hD hS (lv_sub hl [0, 1, 2, 3, 4] rfl)
    · rw [if_pos c48] at hF
      refine lv_iconst (v := (3 : Int32)) hx hb dX5_levels_42 (by decide) ?_
      refine lv_goto (tgt := 47) hx hb dX5_levels_43 (by decide) ?_
      obtain rfl := Option.some.inj hF
      exact J46 _ _ _ hP hD hS (lv_sub hl [0, 1, 2, 3, 4] rfl)
  · rw [if_pos c45] at hF
    refine lv_aload_n hx hb dX5_levels_5 rfl (lv_at hl 0 rfl) ?_
    refine lv_bipush (v := (11 : Int32)) hx hb dX5_levels_6 (by decide) ?_
    refine lv_bipush (v := (6 : Int32)) hx hb dX5_levels_8 (by decide) ?_
    obtain ⟨y49, hy49, hF⟩ := bnd_some hF
    have hf9 := wA_in hD hA9 hS
    refine va_calli (va_runV (As := [.int (11 : Int32), .int (6 : Int32)]) (rest := []) ⟨hx, hb, hml, hown, hts⟩ (kX5_fixed l D ct ad Z G M s.heap.size a ((11 : Int32)) ((6 : Int32)) y49 hc hk hy49) (cwV 2 hts gX5_levels_X5_fixed rfl rfl rfl (by decide +kernel) ⟨Nat.le_of_ble_eq_true rfl, Nat.le_of_ble_eq_true rfl⟩) ⟨fun a U g mk q => by obtain ⟨q0, q1, qP, qK, qD, qZ, qN⟩ := q; exact ⟨q0, q1, qP, va_K.moved (u := U) (U := U.calling g mk a) (Vm.Alike.refl U.vm) qK, qD, sF.moved (u := U) (U := U.calling g mk a) (Vm.Alike.refl U.vm) qZ, nF.same rfl qN⟩, va_recv hK hP (ci := 5) (q0 := a) rfl (wld_o ct ad G M hc hk (by decide)), fun U hU hW => ⟨rfl, by rw [hU], by rw [hU]; exact hP, va_K.moved hW.alike hK, hD.weaken (fun _ _ _ _ => trivial), by rw [hU]; exact ((hZ.kept hS.2.1).narrow hf9).moved hW.alike, hN.warm hW⟩⟩ rfl rfl hl.1 rfl (lv_room (Nat.le_of_ble_eq_true rfl)) dX5_levels_10 ⟨(Nat.zero_le _), (Nat.zero_le _)⟩) hS (fun q _ h => hf9 q h) hf9 (fun r u t H locs ht hvm hw hB hz1 hk1 hS => ?_)
    obtain ⟨hP, hK9, hD9⟩ := hB
    rw [ht] at hP
    try dsimp only at hw
    subst hw
    have hD := hD9.weaken (fun _ q _ h => hf9 q.1 h)
    refine lv_istore (lv' := [(6, .int y49.2), (0, .ref (ad a)), (1, .int p0), (2, .int p1), (3, va_re ad p2), (4, .int p3)]) hx hb dX5_levels_13 hl (by decide) rfl (fun ls hl => ?_)
    refine lv_iload hx hb dX5_levels_15 (lv_at hl 0 rfl) ?_
    refine lv_iconst (v := (3 : Int32)) hx hb dX5_levels_17 (by decide) ?_
    obtain ⟨y50, hy50, hF⟩ := bnd_some hF
    have J50 : ∀ (H : Heap) (locs : List Loc) (ls : Array Slot), va_P D classes (wld ct ad G y49.1) H → va_D A (wld ct ad G y49.1) → va_S A s.heap H locs → lv_has ls 10 [(6, .int y49.2), (0, .ref (ad a)), (1, .int p0), (2, .int p1), (3, va_re ad p2), (4, .int p3)] → W p l e (headSpec wsX5_levels ({ frames := 3, cells := 0, slots := 0, locals := 79 })).room s m ([.ref (ad a), .int p0, .int p1, va_re ad p2, .int p3] : List Value).toArray below meth c H locs 0 0 (MQ below (va_Qi (fun (q : Int32) (_ : Unit) => q = y.2) (fun _ t => kE D ct ad G A y.1 t) A) ([.ref (ad a), .int p0, .int p1, va_re ad p2, .int p3] : List Value).toArray s 0 0 A) (F0 m 29 ls [.int y50]) := by
      intro H locs ls hP hD hS hl
      refine lv_istore (lv' := [(5, .int y50), (6, .int y49.2), (0, .ref (ad a)), (1, .int p0), (2, .int p1), (3, va_re ad p2), (4, .int p3)]) hx hb dX5_levels_29 hl (by decide) rfl (fun ls hl => ?_)
      refine lv_goto (tgt := 52) hx hb dX5_levels_31 (by decide) ?_
      obtain rfl := Option.some.inj hF
      exact J1 _ _ _ hP hD hS (lv_sub hl [0, 2, 3, 4, 5, 6] rfl)
    clear hF
    have hF := hy50
    clear hy50
    refine lv_icmp_ne (tgt := 25) hx hb dX5_levels_18 (by decide) (fun c51 => ?_) (fun c51 => ?_)
    · rw [if_neg c51] at hF
      refine lv_iload hx hb dX5_levels_25 (lv_at hl 0 rfl) ?_
      refine lv_iconst (v := (4 : Int32)) hx hb dX5_levels_27 (by decide) ?_
      refine lv_iadd hx hb dX5_levels_28 ?_
      obtain ⟨x52, ex52, hF⟩ := ltt_some hF
      refine lv_topi (fun zx52 ezx52 => ?_)
      obtain rfl : x52 = zx52 := ex52.trans ezx52.symm
      obtain rfl := Option.some.inj hF
      exact J50 _ _ _ hP hD hS (lv_sub hl [0, 1, 2, 3, 4, 5] rfl)
    · rw [if_pos c51] at hF
      refine lv_iconst (v := (0 : Int32)) hx hb dX5_levels_21 (by decide) ?_
      refine lv_goto (tgt := 29) hx hb dX5_levels_22 (by decide) ?_
      obtain rfl := Option.some.inj hF
      exact J50 _ _ _ hP hD hS (lv_sub hl [0, 1, 2, 3, 4, 5] rfl)
theorem ggX6_fillColours_X9_levelAt : GoodIn wsX6_fillColours wsX9_levelAt := goodIn_r _ [15] (by decide +kernel) (by decide +kernel)
set_option maxRecDepth 20000 in
theorem gX6_fillColours_X9_levelAt : GoodIn wsX6_fillColours (va_wsS RX6 237 yX9_levelAt wsX9_levelAt) := goodIn_app (goodIn_of _ (by decide +kernel)) ggX6_fillColours_X9_levelAt
set_option maxRecDepth 20000 in
theorem ggX6_fillColours_X6_turnFour : GoodIn wsX6_fillColours wsX6_turnFour := goodIn_r _ [20, 2, 66, 67, 68, 69, 70, 71, 72, 73, 74, 75, 76, 77, 78, 79] (by decide +kernel) (by decide +kernel)
set_option maxRecDepth 20000 in
theorem gX6_fillColours_X6_turnFour : GoodIn wsX6_fillColours (wsV RX6 256 RX6 yX6_turnFour wsX6_turnFour) := goodIn_app (goodIn_of _ (by decide +kernel)) ggX6_fillColours_X6_turnFour
set_option maxRecDepth 20000 in
theorem ggX6_fillColours_X6_unfold : GoodIn wsX6_fillColours wsX6_unfold := goodIn_r _ [24, 7, 25, 26, 8, 27, 28, 29, 30, 31, 32, 19, 33, 66, 67, 68, 69, 70, 71, 72, 73, 74, 75, 76, 77, 78, 79] (by decide +kernel) (by decide +kernel)
set_option maxRecDepth 20000 in
theorem gX6_fillColours_X6_unfold : GoodIn wsX6_fillColours (wsV RX6 240 RX6 yX6_unfold wsX6_unfold) := goodIn_app (goodIn_of _ (by decide +kernel)) ggX6_fillColours_X6_unfold
set_option maxRecDepth 20000 in
theorem ggX6_fillColours_X6_normAt : GoodIn wsX6_fillColours wsX6_normAt := goodIn_r _ [33] (by decide +kernel) (by decide +kernel)
set_option maxRecDepth 20000 in
theorem gX6_fillColours_X6_normAt : GoodIn wsX6_fillColours (va_wsS RX6 227 yX6_normAt wsX6_normAt) := goodIn_app (goodIn_of _ (by decide +kernel)) ggX6_fillColours_X6_normAt
set_option maxRecDepth 20000 in
theorem ggX6_fillColours_X6_colourAt : GoodIn wsX6_fillColours wsX6_colourAt := goodIn_r _ [36, 11, 80, 81, 82, 83, 84, 85, 86, 87, 88, 89, 90, 91, 92, 93, 94, 95, 96, 97] (by decide +kernel) (by decide +kernel)
set_option maxRecDepth 20000 in
theorem gX6_fillColours_X6_colourAt : GoodIn wsX6_fillColours (va_wsS RX6 206 yX6_colourAt wsX6_colourAt) := goodIn_app (goodIn_of _ (by decide +kernel)) ggX6_fillColours_X6_colourAt
set_option maxRecDepth 20000 in
theorem ggX6_fillColours_X6_fillPiece : GoodIn wsX6_fillColours wsX6_fillPiece := goodIn_r _ [40, 41, 7, 42, 43, 44, 19, 45, 66, 67, 68, 69, 70, 71, 72, 73, 74, 75, 76, 77, 78, 79] (by decide +kernel) (by decide +kernel)
set_option maxRecDepth 20000 in
theorem gX6_fillColours_X6_fillPiece : GoodIn wsX6_fillColours (wsV RX6 244 RX6 yX6_fillPiece wsX6_fillPiece) := goodIn_app (goodIn_of _ (by decide +kernel)) ggX6_fillColours_X6_fillPiece
theorem dX6_fillColours_0 : decode cX6_fillColours 0 = .ok (.iconst 1, 1) := by decide +kernel
theorem dX6_fillColours_1 : decode cX6_fillColours 1 = .ok (.istore 4, 2) := by decide +kernel
theorem dX6_fillColours_3 : decode cX6_fillColours 3 = .ok (.iload 4, 2) := by decide +kernel
theorem dX6_fillColours_5 : decode cX6_fillColours 5 = .ok (.iconst 3, 1) := by decide +kernel
theorem dX6_fillColours_6 : decode cX6_fillColours 6 = .ok (.if_icmp .ge 177, 3) := by decide +kernel
theorem dX6_fillColours_9 : decode cX6_fillColours 9 = .ok (.aload_n 1, 1) := by decide +kernel
theorem dX6_fillColours_10 : decode cX6_fillColours 10 = .ok (.getfield 234, 3) := by decide +kernel
theorem dX6_fillColours_13 : decode cX6_fillColours 13 = .ok (.iload_n 2, 1) := by decide +kernel
theorem dX6_fillColours_14 : decode cX6_fillColours 14 = .ok (.bipush 16, 2) := by decide +kernel
theorem dX6_fillColours_16 : decode cX6_fillColours 16 = .ok (.iload 4, 2) := by decide +kernel
theorem dX6_fillColours_18 : decode cX6_fillColours 18 = .ok (.iadd, 1) := by decide +kernel
theorem dX6_fillColours_19 : decode cX6_fillColours 19 = .ok (.invokestatic 237, 3) := by decide +kernel
theorem dX6_fillColours_22 : decode cX6_fillColours 22 = .ok (.aload_n 0, 1) := by decide +kernel
theorem dX6_fillColours_23 : decode cX6_fillColours 23 = .ok (.getfield 33, 3) := by decide +kernel
theorem dX6_fillColours_26 : decode cX6_fillColours 26 = .ok (.iconst 0, 1) := by decide +kernel
theorem dX6_fillColours_27 : decode cX6_fillColours 27 = .ok (.iconst 4, 1) := by decide +kernel
theorem dX6_fillColours_28 : decode cX6_fillColours 28 = .ok (.invokestatic 250, 3) := by decide +kernel
theorem dX6_fillColours_31 : decode cX6_fillColours 31 = .ok (.aload_n 0, 1) := by decide +kernel
theorem dX6_fillColours_32 : decode cX6_fillColours 32 = .ok (.invokevirtual 256, 3) := by decide +kernel
theorem dX6_fillColours_35 : decode cX6_fillColours 35 = .ok (.iconst 0, 1) := by decide +kernel
theorem dX6_fillColours_36 : decode cX6_fillColours 36 = .ok (.istore 5, 2) := by decide +kernel
theorem dX6_fillColours_38 : decode cX6_fillColours 38 = .ok (.iload 5, 2) := by decide +kernel
theorem dX6_fillColours_40 : decode cX6_fillColours 40 = .ok (.iconst 4, 1) := by decide +kernel
theorem dX6_fillColours_41 : decode cX6_fillColours 41 = .ok (.if_icmp .ge 136, 3) := by decide +kernel
theorem dX6_fillColours_44 : decode cX6_fillColours 44 = .ok (.iload 5, 2) := by decide +kernel
theorem dX6_fillColours_46 : decode cX6_fillColours 46 = .ok (.iconst 2, 1) := by decide +kernel
theorem dX6_fillColours_47 : decode cX6_fillColours 47 = .ok (.irem, 1) := by decide +kernel
theorem dX6_fillColours_48 : decode cX6_fillColours 48 = .ok (.iconst 4, 1) := by decide +kernel
theorem dX6_fillColours_49 : decode cX6_fillColours 49 = .ok (.imul, 1) := by decide +kernel
theorem dX6_fillColours_50 : decode cX6_fillColours 50 = .ok (.istore 6, 2) := by decide +kernel
theorem dX6_fillColours_52 : decode cX6_fillColours 52 = .ok (.iload 5, 2) := by decide +kernel
theorem dX6_fillColours_54 : decode cX6_fillColours 54 = .ok (.iconst 2, 1) := by decide +kernel
theorem dX6_fillColours_55 : decode cX6_fillColours 55 = .ok (.idiv, 1) := by decide +kernel
theorem dX6_fillColours_56 : decode cX6_fillColours 56 = .ok (.iconst 4, 1) := by decide +kernel
theorem dX6_fillColours_57 : decode cX6_fillColours 57 = .ok (.imul, 1) := by decide +kernel
theorem dX6_fillColours_58 : decode cX6_fillColours 58 = .ok (.istore 7, 2) := by decide +kernel
theorem dX6_fillColours_60 : decode cX6_fillColours 60 = .ok (.aload_n 0, 1) := by decide +kernel
theorem dX6_fillColours_61 : decode cX6_fillColours 61 = .ok (.aload_n 1, 1) := by decide +kernel
theorem dX6_fillColours_62 : decode cX6_fillColours 62 = .ok (.getfield 234, 3) := by decide +kernel
theorem dX6_fillColours_65 : decode cX6_fillColours 65 = .ok (.iload_n 2, 1) := by decide +kernel
theorem dX6_fillColours_66 : decode cX6_fillColours 66 = .ok (.bipush 15, 2) := by decide +kernel
theorem dX6_fillColours_68 : decode cX6_fillColours 68 = .ok (.iconst 4, 1) := by decide +kernel
theorem dX6_fillColours_69 : decode cX6_fillColours 69 = .ok (.iload 4, 2) := by decide +kernel
theorem dX6_fillColours_71 : decode cX6_fillColours 71 = .ok (.imul, 1) := by decide +kernel
theorem dX6_fillColours_72 : decode cX6_fillColours 72 = .ok (.iadd, 1) := by decide +kernel
theorem dX6_fillColours_73 : decode cX6_fillColours 73 = .ok (.iload 5, 2) := by decide +kernel
theorem dX6_fillColours_75 : decode cX6_fillColours 75 = .ok (.iadd, 1) := by decide +kernel
theorem dX6_fillColours_76 : decode cX6_fillColours 76 = .ok (.invokestatic 237, 3) := by decide +kernel
theorem dX6_fillColours_79 : decode cX6_fillColours 79 = .ok (.iconst 1, 1) := by decide +kernel
theorem dX6_fillColours_80 : decode cX6_fillColours 80 = .ok (.iload_n 3, 1) := by decide +kernel
theorem dX6_fillColours_81 : decode cX6_fillColours 81 = .ok (.invokevirtual 240, 3) := by decide +kernel
theorem dX6_fillColours_84 : decode cX6_fillColours 84 = .ok (.aload_n 0, 1) := by decide +kernel
theorem dX6_fillColours_85 : decode cX6_fillColours 85 = .ok (.getfield 30, 3) := by decide +kernel
theorem dX6_fillColours_88 : decode cX6_fillColours 88 = .ok (.iconst 0, 1) := by decide +kernel
theorem dX6_fillColours_89 : decode cX6_fillColours 89 = .ok (.aload_n 0, 1) := by decide +kernel
theorem dX6_fillColours_90 : decode cX6_fillColours 90 = .ok (.getfield 33, 3) := by decide +kernel
theorem dX6_fillColours_93 : decode cX6_fillColours 93 = .ok (.iload 5, 2) := by decide +kernel
theorem dX6_fillColours_95 : decode cX6_fillColours 95 = .ok (.iaload, 1) := by decide +kernel
theorem dX6_fillColours_96 : decode cX6_fillColours 96 = .ok (.getstatic 224, 3) := by decide +kernel
theorem dX6_fillColours_99 : decode cX6_fillColours 99 = .ok (.iload_n 3, 1) := by decide +kernel
theorem dX6_fillColours_100 : decode cX6_fillColours 100 = .ok (.iconst 0, 1) := by decide +kernel
theorem dX6_fillColours_101 : decode cX6_fillColours 101 = .ok (.iconst 0, 1) := by decide +kernel
theorem dX6_fillColours_102 : decode cX6_fillColours 102 = .ok (.invokestatic 227, 3) := by decide +kernel
theorem dX6_fillColours_105 : decode cX6_fillColours 105 = .ok (.iaload, 1) := by decide +kernel
theorem dX6_fillColours_106 : decode cX6_fillColours 106 = .ok (.imul, 1) := by decide +kernel
theorem dX6_fillColours_107 : decode cX6_fillColours 107 = .ok (.iload_n 3, 1) := by decide +kernel
theorem dX6_fillColours_108 : decode cX6_fillColours 108 = .ok (.bipush 6, 2) := by decide +kernel
theorem dX6_fillColours_110 : decode cX6_fillColours 110 = .ok (.idiv, 1) := by decide +kernel
theorem dX6_fillColours_111 : decode cX6_fillColours 111 = .ok (.ishl, 1) := by decide +kernel
theorem dX6_fillColours_112 : decode cX6_fillColours 112 = .ok (.iconst 1, 1) := by decide +kernel
theorem dX6_fillColours_113 : decode cX6_fillColours 113 = .ok (.ishr, 1) := by decide +kernel
theorem dX6_fillColours_114 : decode cX6_fillColours 114 = .ok (.iastore, 1) := by decide +kernel
theorem dX6_fillColours_115 : decode cX6_fillColours 115 = .ok (.aload_n 0, 1) := by decide +kernel
theorem dX6_fillColours_116 : decode cX6_fillColours 116 = .ok (.aload_n 1, 1) := by decide +kernel
theorem dX6_fillColours_117 : decode cX6_fillColours 117 = .ok (.getfield 46, 3) := by decide +kernel
theorem dX6_fillColours_120 : decode cX6_fillColours 120 = .ok (.getfield 121, 3) := by decide +kernel
theorem dX6_fillColours_123 : decode cX6_fillColours 123 = .ok (.iload 4, 2) := by decide +kernel
theorem dX6_fillColours_125 : decode cX6_fillColours 125 = .ok (.aaload, 1) := by decide +kernel
theorem dX6_fillColours_126 : decode cX6_fillColours 126 = .ok (.aload_n 1, 1) := by decide +kernel
theorem dX6_fillColours_127 : decode cX6_fillColours 127 = .ok (.getfield 46, 3) := by decide +kernel
theorem dX6_fillColours_130 : decode cX6_fillColours 130 = .ok (.iload_n 2, 1) := by decide +kernel
theorem dX6_fillColours_131 : decode cX6_fillColours 131 = .ok (.iload 6, 2) := by decide +kernel
theorem dX6_fillColours_133 : decode cX6_fillColours 133 = .ok (.iload 7, 2) := by decide +kernel
theorem dX6_fillColours_135 : decode cX6_fillColours 135 = .ok (.invokestatic 206, 3) := by decide +kernel
theorem dX6_fillColours_138 : decode cX6_fillColours 138 = .ok (.bipush 8, 2) := by decide +kernel
theorem dX6_fillColours_140 : decode cX6_fillColours 140 = .ok (.aload_n 1, 1) := by decide +kernel
theorem dX6_fillColours_141 : decode cX6_fillColours 141 = .ok (.getfield 46, 3) := by decide +kernel
theorem dX6_fillColours_144 : decode cX6_fillColours 144 = .ok (.getfield 83, 3) := by decide +kernel
theorem dX6_fillColours_147 : decode cX6_fillColours 147 = .ok (.imul, 1) := by decide +kernel
theorem dX6_fillColours_148 : decode cX6_fillColours 148 = .ok (.sipush 192, 3) := by decide +kernel
theorem dX6_fillColours_151 : decode cX6_fillColours 151 = .ok (.bipush 64, 2) := by decide +kernel
theorem dX6_fillColours_153 : decode cX6_fillColours 153 = .ok (.iload 4, 2) := by decide +kernel
theorem dX6_fillColours_155 : decode cX6_fillColours 155 = .ok (.imul, 1) := by decide +kernel
theorem dX6_fillColours_156 : decode cX6_fillColours 156 = .ok (.iadd, 1) := by decide +kernel
theorem dX6_fillColours_157 : decode cX6_fillColours 157 = .ok (.bipush 8, 2) := by decide +kernel
theorem dX6_fillColours_159 : decode cX6_fillColours 159 = .ok (.iload 7, 2) := by decide +kernel
theorem dX6_fillColours_161 : decode cX6_fillColours 161 = .ok (.imul, 1) := by decide +kernel
theorem dX6_fillColours_162 : decode cX6_fillColours 162 = .ok (.iadd, 1) := by decide +kernel
theorem dX6_fillColours_163 : decode cX6_fillColours 163 = .ok (.iload 6, 2) := by decide +kernel
theorem dX6_fillColours_165 : decode cX6_fillColours 165 = .ok (.iadd, 1) := by decide +kernel
theorem dX6_fillColours_166 : decode cX6_fillColours 166 = .ok (.bipush 8, 2) := by decide +kernel
theorem dX6_fillColours_168 : decode cX6_fillColours 168 = .ok (.invokevirtual 244, 3) := by decide +kernel
theorem dX6_fillColours_171 : decode cX6_fillColours 171 = .ok (.iinc 5 1, 3) := by decide +kernel
theorem dX6_fillColours_174 : decode cX6_fillColours 174 = .ok (.goto (-136), 3) := by decide +kernel
theorem dX6_fillColours_177 : decode cX6_fillColours 177 = .ok (.iinc 4 1, 3) := by decide +kernel
theorem dX6_fillColours_180 : decode cX6_fillColours 180 = .ok (.goto (-177), 3) := by decide +kernel
theorem dX6_fillColours_183 : decode cX6_fillColours 183 = .ok (.return_, 1) := by decide +kernel
def FX6_fillColours (G : GG) (M : DD) (a : Nat) (p0 : Option Nat) (p1 : Int32) (p2 : Int32) : Option (DD) :=
  bnd (itr (fun (s2 : Int32 × DD) => ((if ((3 : Int32)) ≤ s2.1 then (some (.inr (s2.1, s2.2))) else
  (dr G 9 p0 fun b6 =>
  ltt ((((16 : Int32)) + s2.1)) fun x7 =>
  bnd (FX9_levelAt G s2.2 p1 x7) fun y8 =>
  dr G 13 ((s2.2.2 b6 9)) fun b9 =>
  dr G 13 ((y8.1.2 a 7)) fun b10 =>
  chk (¬ y8.2 < 0 ∧ ¬ ((0 : Int32)) < 0 ∧ ¬ ((4 : Int32)) < 0 ∧ y8.2.toNatClampNeg + ((4 : Int32)).toNatClampNeg ≤ G.2.2 b9 ∧ ((0 : Int32)).toNatClampNeg + ((4 : Int32)).toNatClampNeg ≤ G.2.2 b10) <|
  ltt (rI y8.1 b10 (va_cpy (y8.1.1 b9) (y8.1.1 b10) y8.2.toNatClampNeg ((0 : Int32)).toNatClampNeg ((4 : Int32)).toNatClampNeg)) fun M11 =>
  bnd (FX6_turnFour G M11 a) fun y12 =>
  bnd (itr (fun (s14 : Int32 × DD) => ((if ((4 : Int32)) ≤ s14.1 then (some (.inr (s14.1, s14.2))) else
  (ltt (s14.1 - s14.1 / ((2 : Int32)) * ((2 : Int32))) fun x19 =>
  ltt ((x19 * ((4 : Int32)))) fun x20 =>
  ltt (s14.1 / ((2 : Int32))) fun x21 =>
  ltt ((x21 * ((4 : Int32)))) fun x22 =>
  ltt ((((4 : Int32)) * s2.1)) fun x23 =>
  ltt ((((15 : Int32)) + x23)) fun x24 =>
  ltt ((x24 + s14.1)) fun x25 =>
  bnd (FX9_levelAt G s14.2 p1 x25) fun y26 =>
  bnd (FX6_unfold G y26.1 a ((s14.2.2 b6 9)) y26.2 ((1 : Int32)) p2) fun y27 =>
  dr G 13 ((y27.2 a 7)) fun b28 =>
  chk (¬ (s14.1 < 0 ∨ G.2.2 b28 ≤ s14.1.toNatClampNeg)) <|
  ltt (y27.1 b28 s14.1.toNatClampNeg) fun x29 =>
  bnd (FX6_normAt G y27 p2 ((0 : Int32)) ((0 : Int32))) fun y30 =>
  chk (¬ (y30.2 < 0 ∨ 18 ≤ y30.2.toNatClampNeg)) <|
  ltt ((sT 13).getD y30.2.toNatClampNeg 0) fun x31 =>
  ltt ((x29 * x31)) fun x32 =>
  ltt (p2 / ((6 : Int32))) fun x33 =>
  ltt ((x32 <<< (x33 &&& 31))) fun x34 =>
  ltt ((x34 >>> (((1 : Int32)) &&& 31))) fun x35 =>
  dr G 13 ((y27.2 a 6)) fun b36 =>
  chk (¬ (((0 : Int32)) < 0 ∨ G.2.2 b36 ≤ ((0 : Int32)).toNatClampNeg)) <|
  ltt (uI y30.1 b36 ((0 : Int32)).toNatClampNeg x35) fun M37 =>
  dr G 4 ((M37.2 b6 0)) fun b38 =>
  dr G 15 ((M37.2 b38 4)) fun b39 =>
  chk (¬ (s2.1 < 0 ∨ G.2.2 b39 ≤ s2.1.toNatClampNeg)) <|
  bnd (FX6_colourAt G M37 ((M37.2 b6 0)) p1 x20 x22) fun y40 =>
  dr G 4 ((y40.1.2 b6 0)) fun b41 =>
  ltt (y40.1.1 b41 1) fun x42 =>
  ltt ((((8 : Int32)) * x42)) fun x43 =>
  ltt ((((64 : Int32)) * s2.1)) fun x44 =>
  ltt ((((192 : Int32)) + x44)) fun x45 =>
  ltt ((((8 : Int32)) * x22)) fun x46 =>
  ltt ((x45 + x46)) fun x47 =>
  ltt ((x47 + x20)) fun x48 =>
  bnd (FX6_fillPiece G y40.1 a ((M37.2 b39 s2.1.toNatClampNeg)) y40.2 x43 x48 ((8 : Int32))) fun y49 =>
  ltt (s14.1 + (1 : Int32)) fun x50 =>
  some (.inl (x50, y49)))) : Option ((Int32 × DD) ⊕ (Int32 × DD)))) 1000000 ((0 : Int32), y12)) fun (y13 : Int32 × DD) =>
  ltt (s2.1 + (1 : Int32)) fun x16 =>
  some (.inl (x16, y13.2)))) : Option ((Int32 × DD) ⊕ (Int32 × DD)))) 1000000 ((1 : Int32), M)) fun (y1 : Int32 × DD) =>
  some y1.2
set_option maxHeartbeats 4000000 in
set_option maxRecDepth 100000 in
theorem kX6_fillColours (l : Launch) (D : va_G) (ct : CT) (ad : Nat → Nat) (Z : Nat → Nat) (G : GG) (M : DD) (sz : Nat) (a : Nat) (p0 : Option Nat) (p1 : Int32) (p2 : Int32) (y : DD) (hc : a < G.1) (hk : G.2.1 a = 6) (hF : FX6_fillColours G M a p0 p1 p2 = some y) : Met l yX6_fillColours wsX6_fillColours ({ frames := 2, cells := 0, slots := 0, locals := 80 }) (va_Pc [.ref (ad a), va_re ad p0, .int p1, .int p2] (kB D ct ad Z G M sz)) (va_Qv (fun (_ : Unit) => True) (fun _ t => kE D ct ad G (wA ad G sz) y t) (wA ad G sz)) 0 0 (wA ad G sz) := by
  refine Met.ofW (cc := cX6_fillColours) (maxL := 8) (ret := none) (by decide) rfl ?_
  intro p e s m args below meth c s₁ B hml hv
  obtain ⟨rfl, hsz, hP, hK, hD0, hZ, hN⟩ := hv
  have hx := B.exec
  have hb := B.bytes
  have hr := B.returns
  have hts := atoms_spec (ws := wsX6_fillColours) B.pre
  have hown : s.vm.findClass RX6 = some m.cls := findClass_of_methodNamed B.named
  have hlocks := B.notSynchronized
  subst hsz
  have hD := wD_self (sz := s.heap.size) hD0
  have hA9 : ∀ q, s.heap.size ≤ q → wA ad G s.heap.size q := fun q h => Or.inr h
  generalize hAe : wA ad G s.heap.size = A at hD hA9 hZ ⊢
  have hS : va_S A s.heap s.heap [] := va_S.rf
  have hl := lv_entry ([.ref (ad a), va_re ad p0, .int p1, .int p2]) (n := 8) (by cases p0 <;> exact Nat.le_of_ble_eq_true rfl)
  rw [lg_entry_eq]
  generalize (lg_sl ([.ref (ad a), va_re ad p0, .int p1, .int p2]) ++ List.replicate (8 - (lg_sl ([.ref (ad a), va_re ad p0, .int p1, .int p2])).length) Slot.unset).toArray = ls at hl ⊢
  have hl : lv_has ls 8 [(0, .ref (ad a)), (1, va_re ad p0), (2, .int p1), (3, .int p2)] := by have e9 : lv_args 0 [.ref (ad a), va_re ad p0, .int p1, .int p2] = [(0, .ref (ad a)), (1, va_re ad p0), (2, .int p1), (3, .int p2)] := (by cases p0 <;> rfl); rw [e9] at hl; exact hl
  unfold FX6_fillColours at hF
  refine lv_iconst (v := (1 : Int32)) hx hb dX6_fillColours_0 (by decide) ?_
  refine lv_istore (lv' := [(4, .int (1 : Int32)), (0, .ref (ad a)), (1, va_re ad p0), (2, .int p1), (3, .int p2)]) hx hb dX6_fillColours_1 hl (by decide) rfl (fun ls hl => ?_)
  obtain ⟨y1, hy1, hF⟩ := bnd_some hF
  have K1 : ∀ (H : Heap) (locs : List Loc) (ls : Array Slot), va_P D classes (wld ct ad G y1.2) H → va_D A (wld ct ad G y1.2) → va_S A s.heap H locs → lv_has ls 8 [(4, .int y1.1), (0, .ref (ad a)), (1, va_re ad p0), (2, .int p1), (3, .int p2)] → W p l e (headSpec wsX6_fillColours ({ frames := 2, cells := 0, slots := 0, locals := 80 })).room s m ([.ref (ad a), va_re ad p0, .int p1, .int p2] : List Value).toArray below meth c H locs 0 0 (MQ below (va_Qv (fun (_ : Unit) => True) (fun _ t => kE D ct ad G A y t) A) ([.ref (ad a), va_re ad p0, .int p1, .int p2] : List Value).toArray s 0 0 A) (F0 m 183 ls []) := by
    intro H locs ls hP hD hS hl
    obtain rfl := Option.some.inj hF
    exact W.vret hx hb hr (fun t ht hW => ⟨⟨(), rfl, trivial, ⟨by rw [ht]; exact hP, va_K.moved hW.alike hK, hD⟩⟩, hS.F ht⟩) hS.2.2 dX6_fillColours_183
  clear hF
  refine itr_rule (fun (s2 : Int32 × DD) => ∀ (H : Heap) (locs : List Loc) (ls : Array Slot), va_P D classes (wld ct ad G s2.2) H → va_D A (wld ct ad G s2.2) → va_S A s.heap H locs → lv_has ls 8 [(4, .int s2.1), (0, .ref (ad a)), (1, va_re ad p0), (2, .int p1), (3, .int p2)] → W p l e (headSpec wsX6_fillColours ({ frames := 2, cells := 0, slots := 0, locals := 80 })).room s m ([.ref (ad a), va_re ad p0, .int p1, .int p2] : List Value).toArray below meth c H locs 0 0 (MQ below (va_Qv (fun (_ : Unit) => True) (fun _ t => kE D ct ad G A y t) A) ([.ref (ad a), va_re ad p0, .int p1, .int p2] : List Value).toArray s 0 0 A) (F0 m 3 ls [])) ?_ _ _ hy1 _ _ _ hP hD hS (lv_sub hl [0, 1, 2, 3, 4] rfl)
  rintro s2 ⟨z4, hF, hwz4⟩ H locs ls hP hD hS hl
  try dsimp only at hF
  refine lv_iload hx hb dX6_fillColours_3 (lv_at hl 0 rfl) ?_
  refine lv_iconst (v := (3 : Int32)) hx hb dX6_fillColours_5 (by decide) ?_
  refine lv_icmp_ge (tgt := 183) hx hb dX6_fillColours_6 (by decide) (fun c5 => ?_) (fun c5 => ?_)
  · rw [if_pos c5] at hF
    obtain rfl := Option.some.inj hF
    subst hwz4
    exact K1 _ _ _ hP hD hS (lv_sub hl [0, 1, 2, 3, 4] rfl)
  · rw [if_neg c5] at hF
    refine lv_aloadq_n hx hb dX6_fillColours_9 rfl (lv_at hl 2 rfl) ?_
    obtain ⟨b6, ho6, hc6, hk6, hF⟩ := dr_some hF
    refine W_st (st' := [.ref (ad b6)]) (by rw [va_some ho6]) ?_
    refine va_get (D := D) (ci := 9) (v := va_re ad (s2.2.2 b6 9)) (C := RX9) (T := TX9) (N := 20) hx hb hts (by decide +kernel) hown hK hP b6 (wld_o ct ad G s2.2 hc6 hk6 (by decide)) rfl 9 (by decide) (hts (.fieldLink RX6 234 "VideoSuite$Work" "level" "[I") (by decide +kernel)) (fun _ h9 => h9) rfl dX6_fillColours_10 ?_
    refine lv_iload_n hx hb dX6_fillColours_13 rfl (lv_at hl 3 rfl) ?_
    refine lv_bipush (v := (16 : Int32)) hx hb dX6_fillColours_14 (by decide) ?_
    refine lv_iload hx hb dX6_fillColours_16 (lv_at hl 0 rfl) ?_
    refine lv_iadd hx hb dX6_fillColours_18 ?_
    obtain ⟨x7, ex7, hF⟩ := ltt_some hF
    refine lv_topi (fun zx7 ezx7 => ?_)
    obtain rfl : x7 = zx7 := ex7.trans ezx7.symm
    obtain ⟨y8, hy8, hF⟩ := bnd_some hF
    have hf9 := wA_in hD hA9 hS
    refine va_calli (va_runS (As := [.int p1, .int x7]) (rest := [va_re ad (s2.2.2 b6 9)]) ⟨hx, hb, hml, hown, hts⟩ (kX9_levelAt l D ct ad Z G s2.2 H.size p1 x7 y8 hy8) (va_cwS 2 hts gX6_fillColours_X9_levelAt rfl rfl rfl (by decide +kernel) ⟨Nat.le_of_ble_eq_true rfl, Nat.le_of_ble_eq_true rfl⟩) ⟨fun a U g mk q => by obtain ⟨q0, q1, qP, qK, qD, qZ, qN⟩ := q; exact ⟨q0, q1, qP, va_K.moved (u := U) (U := U.calling g mk a) (Vm.Alike.refl U.vm) qK, qD, sF.moved (u := U) (U := U.calling g mk a) (Vm.Alike.refl U.vm) qZ, nF.same rfl qN⟩, fun U hU hW => ⟨rfl, by rw [hU], by rw [hU]; exact hP, va_K.moved hW.alike hK, hD.weaken (fun _ _ _ _ => trivial), by rw [hU]; exact ((hZ.kept hS.2.1).narrow hf9).moved hW.alike, hN.warm hW⟩⟩ rfl rfl hl.1 rfl (lv_room (by simp only [List.map, va_re_cat]; exact Nat.le_of_ble_eq_true rfl)) dX6_fillColours_19 ⟨(Nat.zero_le _), (Nat.zero_le _)⟩) hS (fun q _ h => hf9 q h) hf9 (fun r u t H locs ht hvm hw hB hz1 hk1 hS => ?_)
    obtain ⟨hP, hK9, hD9⟩ := hB
    rw [ht] at hP
    try dsimp only at hw
    subst hw
    have hD := hD9.weaken (fun _ q _ h => hf9 q.1 h)
    refine lv_aload_n hx hb dX6_fillColours_22 rfl (lv_at hl 1 rfl) ?_
    refine va_get (D := D) (ci := 6) (v := va_re ad (y8.1.2 a 7)) (C := RX6) (T := TX6) (N := 14) hx hb hts (by decide +kernel) hown hK hP a (wld_o ct ad G y8.1 hc hk (by decide)) rfl 7 (by decide) (hts (.fieldLink RX6 33 "VideoSuite$Samples" "even" "[I") (by decide +kernel)) (fun _ h9 => h9) rfl dX6_fillColours_23 ?_
    refine lv_iconst (v := (0 : Int32)) hx hb dX6_fillColours_26 (by decide) ?_
    refine lv_iconst (v := (4 : Int32)) hx hb dX6_fillColours_27 (by decide) ?_
    obtain ⟨b9, ho9, hc9, hk9, hF⟩ := dr_some hF
    refine W_st (st' := [.int (4 : Int32), .int (0 : Int32), va_re ad (y8.1.2 a 7), .int y8.2, .ref (ad b9)]) (by rw [va_some ho9]) ?_
    obtain ⟨b10, ho10, hc10, hk10, hF⟩ := dr_some hF
    refine W_st (st' := [.int (4 : Int32), .int (0 : Int32), .ref (ad b10), .int y8.2, .ref (ad b9)]) (by rw [va_some ho10]) ?_
    obtain ⟨hv9, hF⟩ := chk_some hF
    refine va_copyi (ty := .int) hx hb (hml.trans hl.1.symm) hown (hts (.methodLink RX6 250 arraycopyName) (by decide +kernel)) (hts (.native arraycopyName) (by decide +kernel)) (hts (.static arraycopyName) (by decide +kernel)) (hts (.initialized "java/lang/System") (by decide +kernel)) hK hP hD hS b9 b10 1 1 (wld_i ct ad G y8.1 hc9 hk9) (wld_i ct ad G y8.1 hc10 hk10) rfl rfl rfl hv9.1 hv9.2.1 hv9.2.2.1 hv9.2.2.2.1 hv9.2.2.2.2 (fun _ _ => rfl) (Nat.le_of_ble_eq_true rfl) (by decide +kernel) dX6_fillColours_28 (fun H locs hP hD hS => ?_)
    obtain ⟨M11, eM11, hF⟩ := ltt_some hF
    rw [set_ri ct ad G y8.1 hc10 hk10, ← eM11] at hP hD
    refine lv_aload_n hx hb dX6_fillColours_31 rfl (lv_at hl 1 rfl) ?_
    obtain ⟨y12, hy12, hF⟩ := bnd_some hF
    have hf9 := wA_in hD hA9 hS
    refine va_callv (va_runV (As := []) (rest := []) ⟨hx, hb, hml, hown, hts⟩ (kX6_turnFour l D ct ad Z G M11 H.size a y12 hc hk hy12) (cwV 0 hts gX6_fillColours_X6_turnFour rfl rfl rfl (by decide +kernel) ⟨Nat.le_of_ble_eq_true rfl, Nat.le_of_ble_eq_true rfl⟩) ⟨fun a U g mk q => by obtain ⟨q0, q1, qP, qK, qD, qZ, qN⟩ := q; exact ⟨q0, q1, qP, va_K.moved (u := U) (U := U.calling g mk a) (Vm.Alike.refl U.vm) qK, qD, sF.moved (u := U) (U := U.calling g mk a) (Vm.Alike.refl U.vm) qZ, nF.same rfl qN⟩, va_recv hK hP (ci := 6) (q0 := a) rfl (wld_o ct ad G M11 hc hk (by decide)), fun U hU hW => ⟨rfl, by rw [hU], by rw [hU]; exact hP, va_K.moved hW.alike hK, hD.weaken (fun _ _ _ _ => trivial), by rw [hU]; exact ((hZ.kept hS.2.1).narrow hf9).moved hW.alike, hN.warm hW⟩⟩ rfl rfl hl.1 rfl (lv_room (Nat.le_of_ble_eq_true rfl)) dX6_fillColours_32 ⟨(Nat.zero_le _), (Nat.zero_le _)⟩) hS (fun q _ h => hf9 q h) hf9 (fun u t H locs ht hvm hw hB hz1 hk1 hS => ?_)
    obtain ⟨hP, hK9, hD9⟩ := hB
    rw [ht] at hP
    have hD := hD9.weaken (fun _ q _ h => hf9 q.1 h)
    refine lv_iconst (v := (0 : Int32)) hx hb dX6_fillColours_35 (by decide) ?_
    refine lv_istore (lv' := [(5, .int (0 : Int32)), (4, .int s2.1), (0, .ref (ad a)), (1, va_re ad p0), (2, .int p1), (3, .int p2)]) hx hb dX6_fillColours_36 hl (by decide) rfl (fun ls hl => ?_)
    obtain ⟨y13, hy13, hF⟩ := bnd_some hF
    have K13 : ∀ (H : Heap) (locs : List Loc) (ls : Array Slot), va_P D classes (wld ct ad G y13.2) H → va_D A (wld ct ad G y13.2) → va_S A s.heap H locs → lv_has ls 8 [(5, .int y13.1), (4, .int s2.1), (0, .ref (ad a)), (1, va_re ad p0), (2, .int p1), (3, .int p2)] → W p l e (headSpec wsX6_fillColours ({ frames := 2, cells := 0, slots := 0, locals := 80 })).room s m ([.ref (ad a), va_re ad p0, .int p1, .int p2] : List Value).toArray below meth c H locs 0 0 (MQ below (va_Qv (fun (_ : Unit) => True) (fun _ t => kE D ct ad G A y t) A) ([.ref (ad a), va_re ad p0, .int p1, .int p2] : List Value).toArray s 0 0 A) (F0 m 177 ls []) := by
      intro H locs ls hP hD hS hl
      obtain ⟨x16, ex16, hF⟩ := ltt_some hF
      refine lv_iinc (v := x16) (lv' := [(4, .int x16), (5, .int y13.1), (0, .ref (ad a)), (1, va_re ad p0), (2, .int p1), (3, .int p2)]) hx hb dX6_fillColours_177 hl (k := 1) rfl (by rw [ex16]; rfl) (by decide) rfl (fun ls hl => ?_)
      refine lv_goto (tgt := 3) hx hb dX6_fillColours_180 (by decide) ?_
      obtain rfl := Option.some.inj hF
      exact hwz4 _ _ _ hP hD hS (lv_sub hl [0, 2, 3, 4, 5] rfl)
    clear hF
    refine itr_rule (fun (s14 : Int32 × DD) => ∀ (H : Heap) (locs : List Loc) (ls : Array Slot), va_P D classes (wld ct ad G s14.2) H → va_D A (wld ct ad G s14.2) → va_S A s.heap H locs → lv_has ls 8 [(5, .int s14.1), (4, .int s2.1), (0, .ref (ad a)), (1, va_re ad p0), (2, .int p1), (3, .int p2)] → W p l e (headSpec wsX6_fillColours ({ frames := 2, cells := 0, slots := 0, locals := 80 })).room s m ([.ref (ad a), va_re ad p0, .int p1, .int p2] : List Value).toArray below meth c H locs 0 0 (MQ below (va_Qv (fun (_ : Unit) => True) (fun _ t => kE D ct ad G A y t) A) ([.ref (ad a), va_re ad p0, .int p1, .int p2] : List Value).toArray s 0 0 A) (F0 m 38 ls [])) ?_ _ _ hy13 _ _ _ hP hD hS (lv_sub hl [0, 1, 2, 3, 4, 5] rfl)
    rintro s14 ⟨z17, hF, hwz17⟩ H locs ls hP hD hS hl
    try dsimp only at hF
    refine lv_iload hx hb dX6_fillColours_38 (lv_at hl 0 rfl) ?_
    refine lv_iconst (v := (4 : Int32)) hx hb dX6_fillColours_40 (by decide) ?_
    refine lv_icmp_ge (tgt := 177) hx hb dX6_fillColours_41 (by decide) (fun c18 => ?_) (fun c18 => ?_)
    · rw [if_pos c18] at hF
      obtain rfl := Option.some.inj hF
      subst hwz17
      exact K13 _ _ _ hP hD hS (lv_sub hl [0, 1, 2, 3, 4, 5] rfl)
    · rw [if_neg c18] at hF
      refine lv_iload hx hb dX6_fillColours_44 (lv_at hl 0 rfl) ?_
      refine lv_iconst (v := (2 : Int32)) hx hb dX6_fillColours_46 (by decide) ?_
      refine lv_irem hx hb dX6_fillColours_47 (by decide) ?_
      obtain ⟨x19, ex19, hF⟩ := ltt_some hF
      refine lv_topi (fun zx19 ezx19 => ?_)
      obtain rfl : x19 = zx19 := ex19.trans ezx19.symm
      refine lv_iconst (v := (4 : Int32)) hx hb dX6_fillColours_48 (by decide) ?_
      refine lv_imul hx hb dX6_fillColours_49 ?_
      obtain ⟨x20, ex20, hF⟩ := ltt_some hF
      refine lv_topi (fun zx20 ezx20 => ?_)
      obtain rfl : x20 = zx20 := ex20.trans ezx20.symm
      refine lv_istore (lv' := [(6, .int x20), (5, .int s14.1), (4, .int s2.1), (0, .ref (ad a)), (1, va_re ad p0), (2, .int p1), (3, .int p2)]) hx hb dX6_fillColours_50 hl (by decide) rfl (fun ls hl => ?_)
      refine lv_iload hx hb dX6_fillColours_52 (lv_at hl 1 rfl) ?_
      refine lv_iconst (v := (2 : Int32)) hx hb dX6_fillColours_54 (by decide) ?_
      refine lv_idiv hx hb dX6_fillColours_55 (by decide) ?_
      obtain ⟨x21, ex21, hF⟩ := ltt_some hF
      refine lv_topi (fun zx21 ezx21 => ?_)
      obtain rfl : x21 = zx21 := ex21.trans ezx21.symm
      refine lv_iconst (v := (4 : Int32)) hx hb dX6_fillColours_56 (by decide) ?_
      refine lv_imul hx hb dX6_fillColours_57 ?_
      obtain ⟨x22, ex22, hF⟩ := ltt_some hF
      refine lv_topi (fun zx22 ezx22 => ?_)
      obtain rfl : x22 = zx22 := ex22.trans ezx22.symm
      refine lv_istore (lv' := [(7, .int x22), (6, .int x20), (5, .int s14.1), (4, .int s2.1), (0, .ref (ad a)), (1, va_re ad p0), (2, .int p1), (3, .int p2)]) hx hb dX6_fillColours_58 hl (by decide) rfl (fun ls hl => ?_)
      refine lv_aload_n hx hb dX6_fillColours_60 rfl (lv_at hl 4 rfl) ?_
      refine lv_aloadq_n hx hb dX6_fillColours_61 rfl (lv_at hl 5 rfl) ?_
      refine W_st (st' := [.ref (ad b6), .ref (ad a)]) (by rw [va_some ho6]) ?_
      refine va_get (D := D) (ci := 9) (v := va_re ad (s14.2.2 b6 9)) (C := RX9) (T := TX9) (N := 20) hx hb hts (by decide +kernel) hown hK hP b6 (wld_o ct ad G s14.2 hc6 hk6 (by decide)) rfl 9 (by decide) (hts (.fieldLink RX6 234 "VideoSuite$Work" "level" "[I") (by decide +kernel)) (fun _ h9 => h9) rfl dX6_fillColours_62 ?_
      refine lv_iload_n hx hb dX6_fillColours_65 rfl (lv_at hl 6 rfl) ?_
      refine lv_bipush (v := (15 : Int32)) hx hb dX6_fillColours_66 (by decide) ?_
      refine lv_iconst (v := (4 : Int32)) hx hb dX6_fillColours_68 (by decide) ?_
      refine lv_iload hx hb dX6_fillColours_69 (lv_at hl 3 rfl) ?_
      refine lv_imul hx hb dX6_fillColours_71 ?_
      obtain ⟨x23, ex23, hF⟩ := ltt_some hF
      refine lv_topi (fun zx23 ezx23 => ?_)
      obtain rfl : x23 = zx23 := ex23.trans ezx23.symm
      refine lv_iadd hx hb dX6_fillColours_72 ?_
      obtain ⟨x24, ex24, hF⟩ := ltt_some hF
      refine lv_topi (fun zx24 ezx24 => ?_)
      obtain rfl : x24 = zx24 := ex24.trans ezx24.symm
      refine lv_iload hx hb dX6_fillColours_73 (lv_at hl 2 rfl) ?_
      refine lv_iadd hx hb dX6_fillColours_75 ?_
      obtain ⟨x25, ex25, hF⟩ := ltt_some hF
      refine lv_topi (fun zx25 ezx25 => ?_)
      obtain rfl : x25 = zx25 := ex25.trans ezx25.symm
      obtain ⟨y26, hy26, hF⟩ := bnd_some hF
      have hf9 := wA_in hD hA9 hS
      refine va_calli (va_runS (As := [.int p1, .int x25]) (rest := [va_re ad (s14.2.2 b6 9), .ref (ad a)]) ⟨hx, hb, hml, hown, hts⟩ (kX9_levelAt l D ct ad Z G s14.2 H.size p1 x25 y26 hy26) (va_cwS 2 hts gX6_fillColours_X9_levelAt rfl rfl rfl (by decide +kernel) ⟨Nat.le_of_ble_eq_true rfl, Nat.le_of_ble_eq_true rfl⟩) ⟨fun a U g mk q => by obtain ⟨q0, q1, qP, qK, qD, qZ, qN⟩ := q; exact ⟨q0, q1, qP, va_K.moved (u := U) (U := U.calling g mk a) (Vm.Alike.refl U.vm) qK, qD, sF.moved (u := U) (U := U.calling g mk a) (Vm.Alike.refl U.vm) qZ, nF.same rfl qN⟩, fun U hU hW => ⟨rfl, by rw [hU], by rw [hU]; exact hP, va_K.moved hW.alike hK, hD.weaken (fun _ _ _ _ => trivial), by rw [hU]; exact ((hZ.kept hS.2.1).narrow hf9).moved hW.alike, hN.warm hW⟩⟩ rfl rfl hl.1 rfl (lv_room (by simp only [List.map, va_re_cat]; exact Nat.le_of_ble_eq_true rfl)) dX6_fillColours_76 ⟨(Nat.zero_le _), (Nat.zero_le _)⟩) hS (fun q _ h => hf9 q h) hf9 (fun r u t H locs ht hvm hw hB hz1 hk1 hS => ?_)
      obtain ⟨hP, hK9, hD9⟩ := hB
      rw [ht] at hP
      try dsimp only at hw
      subst hw
      have hD := hD9.weaken (fun _ q _ h => hf9 q.1 h)
      refine lv_iconst (v := (1 : Int32)) hx hb dX6_fillColours_79 (by decide) ?_
      refine lv_iload_n hx hb dX6_fillColours_80 rfl (lv_at hl 7 rfl) ?_
      obtain ⟨y27, hy27, hF⟩ := bnd_some hF
      have hf9 := wA_in hD hA9 hS
      refine va_callv (va_runV (As := [va_re ad (s14.2.2 b6 9), .int y26.2, .int (1 : Int32), .int p2]) (rest := []) ⟨hx, hb, hml, hown, hts⟩ (kX6_unfold l D ct ad Z G y26.1 H.size a ((s14.2.2 b6 9)) y26.2 ((1 : Int32)) p2 y27 hc hk hy27) (cwV 4 hts gX6_fillColours_X6_unfold rfl rfl rfl (by decide +kernel) ⟨Nat.le_of_ble_eq_true rfl, Nat.le_of_ble_eq_true rfl⟩) ⟨fun a U g mk q => by obtain ⟨q0, q1, qP, qK, qD, qZ, qN⟩ := q; exact ⟨q0, q1, qP, va_K.moved (u := U) (U := U.calling g mk a) (Vm.Alike.refl U.vm) qK, qD, sF.moved (u := U) (U := U.calling g mk a) (Vm.Alike.refl U.vm) qZ, nF.same rfl qN⟩, va_recv hK hP (ci := 6) (q0 := a) rfl (wld_o ct ad G y26.1 hc hk (by decide)), fun U hU hW => ⟨rfl, by rw [hU], by rw [hU]; exact hP, va_K.moved hW.alike hK, hD.weaken (fun _ _ _ _ => trivial), by rw [hU]; exact ((hZ.kept hS.2.1).narrow hf9).moved hW.alike, hN.warm hW⟩⟩ rfl rfl hl.1 rfl (lv_room (Nat.le_of_ble_eq_true rfl)) dX6_fillColours_81 ⟨(Nat.zero_le _), (Nat.zero_le _)⟩) hS (fun q _ h => hf9 q h) hf9 (fun u t H locs ht hvm hw hB hz1 hk1 hS => ?_)
      obtain ⟨hP, hK9, hD9⟩ := hB
      rw [ht] at hP
      have hD := hD9.weaken (fun _ q _ h => hf9 q.1 h)
      refine lv_aload_n hx hb dX6_fillColours_84 rfl (lv_at hl 4 rfl) ?_
      refine va_get (D := D) (ci := 6) (v := va_re ad (y27.2 a 6)) (C := RX6) (T := TX6) (N := 14) hx hb hts (by decide +kernel) hown hK hP a (wld_o ct ad G y27 hc hk (by decide)) rfl 6 (by decide) (hts (.fieldLink RX6 30 "VideoSuite$Samples" "rest" "[I") (by decide +kernel)) (fun _ h9 => h9) rfl dX6_fillColours_85 ?_
      refine lv_iconst (v := (0 : Int32)) hx hb dX6_fillColours_88 (by decide) ?_
      refine lv_aload_n hx hb dX6_fillColours_89 rfl (lv_at hl 4 rfl) ?_
      refine va_get (D := D) (ci := 6) (v := va_re ad (y27.2 a 7)) (C := RX6) (T := TX6) (N := 14) hx hb hts (by decide +kernel) hown hK hP a (wld_o ct ad G y27 hc hk (by decide)) rfl 7 (by decide) (hts (.fieldLink RX6 33 "VideoSuite$Samples" "even" "[I") (by decide +kernel)) (fun _ h9 => h9) rfl dX6_fillColours_90 ?_
      refine lv_iload hx hb dX6_fillColours_93 (lv_at hl 2 rfl) ?_
      obtain ⟨b28, ho28, hc28, hk28, hF⟩ := dr_some hF
      refine W_st (st' := [.int s14.1, .ref (ad b28), .int (0 : Int32), va_re ad (y27.2 a 6)]) (by rw [va_some ho28]) ?_
      obtain ⟨hvc, hF⟩ := chk_some hF
      refine va_iald hx hb hK hP b28 1 (wld_i ct ad G y27 hc28 hk28) rfl hvc dX6_fillColours_95 ?_
      obtain ⟨x29, ex29, hF⟩ := ltt_some hF
      refine lv_topi (fun zx29 ezx29 => ?_)
      obtain rfl : x29 = zx29 := ex29.trans ezx29.symm
      refine va_gets hx hb (hZ.1 13 (by decide)).1 hS hown (hts (.fieldLink RX6 224 "VideoSuite$Samples" "NORM" "[I") (by decide +kernel)) (fun _ h => h) dX6_fillColours_96 ?_
      refine lv_iload_n hx hb dX6_fillColours_99 rfl (lv_at hl 7 rfl) ?_
      refine lv_iconst (v := (0 : Int32)) hx hb dX6_fillColours_100 (by decide) ?_
      refine lv_iconst (v := (0 : Int32)) hx hb dX6_fillColours_101 (by decide) ?_
      obtain ⟨y30, hy30, hF⟩ := bnd_some hF
      have hf9 := wA_in hD hA9 hS
      refine va_calli (va_runS (As := [.int p2, .int (0 : Int32), .int (0 : Int32)]) (rest := [.ref (Z 13), .int x29, .int (0 : Int32), va_re ad (y27.2 a 6)]) ⟨hx, hb, hml, hown, hts⟩ (kX6_normAt l D ct ad Z G y27 H.size p2 ((0 : Int32)) ((0 : Int32)) y30 hy30) (va_cwS 3 hts gX6_fillColours_X6_normAt rfl rfl rfl (by decide +kernel) ⟨Nat.le_of_ble_eq_true rfl, Nat.le_of_ble_eq_true rfl⟩) ⟨fun a U g mk q => by obtain ⟨q0, q1, qP, qK, qD, qZ, qN⟩ := q; exact ⟨q0, q1, qP, va_K.moved (u := U) (U := U.calling g mk a) (Vm.Alike.refl U.vm) qK, qD, sF.moved (u := U) (U := U.calling g mk a) (Vm.Alike.refl U.vm) qZ, nF.same rfl qN⟩, fun U hU hW => ⟨rfl, by rw [hU], by rw [hU]; exact hP, va_K.moved hW.alike hK, hD.weaken (fun _ _ _ _ => trivial), by rw [hU]; exact ((hZ.kept hS.2.1).narrow hf9).moved hW.alike, hN.warm hW⟩⟩ rfl rfl hl.1 rfl (lv_room (by simp only [List.map, va_re_cat]; exact Nat.le_of_ble_eq_true rfl)) dX6_fillColours_102 ⟨(Nat.zero_le _), (Nat.zero_le _)⟩) hS (fun q _ h => hf9 q h) hf9 (fun r u t H locs ht hvm hw hB hz1 hk1 hS => ?_)
      obtain ⟨hP, hK9, hD9⟩ := hB
      rw [ht] at hP
      try dsimp only at hw
      subst hw
      have hD := hD9.weaken (fun _ q _ h => hf9 q.1 h)
      obtain ⟨hvc, hF⟩ := chk_some hF
      refine va_ti (v := .int ((sT 13).getD y30.2.toNatClampNeg 0)) hx hb (hZ.1 13 (by decide)).2 hS hvc rfl dX6_fillColours_105 ?_
      obtain ⟨x31, ex31, hF⟩ := ltt_some hF
      refine lv_topi (fun zx31 ezx31 => ?_)
      obtain rfl : x31 = zx31 := ex31.trans ezx31.symm
      refine lv_imul hx hb dX6_fillColours_106 ?_
      obtain ⟨x32, ex32, hF⟩ := ltt_some hF
      refine lv_topi (fun zx32 ezx32 => ?_)
      obtain rfl : x32 = zx32 := ex32.trans ezx32.symm
      refine lv_iload_n hx hb dX6_fillColours_107 rfl (lv_at hl 7 rfl) ?_
      refine lv_bipush (v := (6 : Int32)) hx hb dX6_fillColours_108 (by decide) ?_
      refine lv_idiv hx hb dX6_fillColours_110 (by decide) ?_
      obtain ⟨x33, ex33, hF⟩ := ltt_some hF
      refine lv_topi (fun zx33 ezx33 => ?_)
      obtain rfl : x33 = zx33 := ex33.trans ezx33.symm
      refine lv_ishl hx hb dX6_fillColours_111 ?_
      obtain ⟨x34, ex34, hF⟩ := ltt_some hF
      refine lv_topi (fun zx34 ezx34 => ?_)
      obtain rfl : x34 = zx34 := ex34.trans ezx34.symm
      refine lv_iconst (v := (1 : Int32)) hx hb dX6_fillColours_112 (by decide) ?_
      refine lv_ishr hx hb dX6_fillColours_113 ?_
      obtain ⟨x35, ex35, hF⟩ := ltt_some hF
      refine lv_topi (fun zx35 ezx35 => ?_)
      obtain rfl : x35 = zx35 := ex35.trans ezx35.symm
      obtain ⟨b36, ho36, hc36, hk36, hF⟩ := dr_some hF
      refine W_st (st' := [.int x35, .int (0 : Int32), .ref (ad b36)]) (by rw [va_some ho36]) ?_
      obtain ⟨hvc, hF⟩ := chk_some hF
      refine va_iast hx hb hK hP hD hS b36 1 (wld_i ct ad G y30.1 hc36 hk36) rfl hvc dX6_fillColours_114 (fun H locs hP hD hS => ?_)
      obtain ⟨M37, eM37, hF⟩ := ltt_some hF
      rw [set_i ct ad G y30.1 hc36 hk36, ← eM37] at hP hD
      refine lv_aload_n hx hb dX6_fillColours_115 rfl (lv_at hl 4 rfl) ?_
      refine lv_aloadq_n hx hb dX6_fillColours_116 rfl (lv_at hl 5 rfl) ?_
      refine W_st (st' := [.ref (ad b6), .ref (ad a)]) (by rw [va_some ho6]) ?_
      refine va_get (D := D) (ci := 9) (v := va_re ad (M37.2 b6 0)) (C := RX9) (T := TX9) (N := 20) hx hb hts (by decide +kernel) hown hK hP b6 (wld_o ct ad G M37 hc6 hk6 (by decide)) rfl 0 (by decide) (hts (.fieldLink RX6 46 "VideoSuite$Work" "pic" "LVideoSuite$Picture;") (by decide +kernel)) (fun _ h9 => h9) rfl dX6_fillColours_117 ?_
      obtain ⟨b38, ho38, hc38, hk38, hF⟩ := dr_some hF
      refine W_st (st' := [.ref (ad b38), .ref (ad a)]) (by rw [va_some ho38]) ?_
      refine va_get (D := D) (ci := 4) (v := va_re ad (M37.2 b38 4)) (C := RX4) (T := TX4) (N := 18) hx hb hts (by decide +kernel) hown hK hP b38 (wld_o ct ad G M37 hc38 hk38 (by decide)) rfl 4 (by decide) (hts (.fieldLink RX6 121 "VideoSuite$Picture" "plane" "[[I") (by decide +kernel)) (fun _ h9 => h9) rfl dX6_fillColours_120 ?_
      refine lv_iload hx hb dX6_fillColours_123 (lv_at hl 3 rfl) ?_
      obtain ⟨b39, ho39, hc39, hk39, hF⟩ := dr_some hF
      refine W_st (st' := [.int s2.1, .ref (ad b39), .ref (ad a)]) (by rw [va_some ho39]) ?_
      obtain ⟨hvc, hF⟩ := chk_some hF
      refine ld_g hx hb hK hP hc39 hk39 hvc dX6_fillColours_125 ?_
      refine lv_aloadq_n hx hb dX6_fillColours_126 rfl (lv_at hl 5 rfl) ?_
      refine W_st (st' := [.ref (ad b6), va_re ad (M37.2 b39 s2.1.toNatClampNeg), .ref (ad a)]) (by rw [va_some ho6]) ?_
      refine va_get (D := D) (ci := 9) (v := va_re ad (M37.2 b6 0)) (C := RX9) (T := TX9) (N := 20) hx hb hts (by decide +kernel) hown hK hP b6 (wld_o ct ad G M37 hc6 hk6 (by decide)) rfl 0 (by decide) (hts (.fieldLink RX6 46 "VideoSuite$Work" "pic" "LVideoSuite$Picture;") (by decide +kernel)) (fun _ h9 => h9) rfl dX6_fillColours_127 ?_
      refine lv_iload_n hx hb dX6_fillColours_130 rfl (lv_at hl 6 rfl) ?_
      refine lv_iload hx hb dX6_fillColours_131 (lv_at hl 1 rfl) ?_
      refine lv_iload hx hb dX6_fillColours_133 (lv_at hl 0 rfl) ?_
      obtain ⟨y40, hy40, hF⟩ := bnd_some hF
      have hf9 := wA_in hD hA9 hS
      refine va_calli (va_runS (As := [va_re ad (M37.2 b6 0), .int p1, .int x20, .int x22]) (rest := [va_re ad (M37.2 b39 s2.1.toNatClampNeg), .ref (ad a)]) ⟨hx, hb, hml, hown, hts⟩ (kX6_colourAt l D ct ad Z G M37 H.size ((M37.2 b6 0)) p1 x20 x22 y40 hy40) (va_cwS 4 hts gX6_fillColours_X6_colourAt rfl rfl rfl (by decide +kernel) ⟨Nat.le_of_ble_eq_true rfl, Nat.le_of_ble_eq_true rfl⟩) ⟨fun a U g mk q => by obtain ⟨q0, q1, qP, qK, qD, qZ, qN⟩ := q; exact ⟨q0, q1, qP, va_K.moved (u := U) (U := U.calling g mk a) (Vm.Alike.refl U.vm) qK, qD, sF.moved (u := U) (U := U.calling g mk a) (Vm.Alike.refl U.vm) qZ, nF.same rfl qN⟩, fun U hU hW => ⟨rfl, by rw [hU], by rw [hU]; exact hP, va_K.moved hW.alike hK, hD.weaken (fun _ _ _ _ => trivial), by rw [hU]; exact ((hZ.kept hS.2.1).narrow hf9).moved hW.alike, hN.warm hW⟩⟩ rfl rfl hl.1 rfl (lv_room (by simp only [List.map, va_re_cat]; exact Nat.le_of_ble_eq_true rfl)) dX6_fillColours_135 ⟨(Nat.zero_le _), (Nat.zero_le _)⟩) hS (fun q _ h => hf9 q h) hf9 (fun r u t H locs ht hvm hw hB hz1 hk1 hS => ?_)
      obtain ⟨hP, hK9, hD9⟩ := hB
      rw [ht] at hP
      try dsimp only at hw
      subst hw
      have hD := hD9.weaken (fun _ q _ h => hf9 q.1 h)
      refine lv_bipush (v := (8 : Int32)) hx hb dX6_fillColours_138 (by decide) ?_
      refine lv_aloadq_n hx hb dX6_fillColours_140 rfl (lv_at hl 5 rfl) ?_
      refine W_st (st' := [.ref (ad b6), .int (8 : Int32), .int y40.2, va_re ad (M37.2 b39 s2.1.toNatClampNeg), .ref (ad a)]) (by rw [va_some ho6]) ?_
      refine va_get (D := D) (ci := 9) (v := va_re ad (y40.1.2 b6 0)) (C := RX9) (T := TX9) (N := 20) hx hb hts (by decide +kernel) hown hK hP b6 (wld_o ct ad G y40.1 hc6 hk6 (by decide)) rfl 0 (by decide) (hts (.fieldLink RX6 46 "VideoSuite$Work" "pic" "LVideoSuite$Picture;") (by decide +kernel)) (fun _ h9 => h9) rfl dX6_fillColours_141 ?_
      obtain ⟨b41, ho41, hc41, hk41, hF⟩ := dr_some hF
      refine W_st (st' := [.ref (ad b41), .int (8 : Int32), .int y40.2, va_re ad (M37.2 b39 s2.1.toNatClampNeg), .ref (ad a)]) (by rw [va_some ho41]) ?_
      refine va_get (D := D) (ci := 4) (v := .int (y40.1.1 b41 1)) (C := RX4) (T := TX4) (N := 18) hx hb hts (by decide +kernel) hown hK hP b41 (wld_o ct ad G y40.1 hc41 hk41 (by decide)) rfl 1 (by decide) (hts (.fieldLink RX6 83 "VideoSuite$Picture" "width" "I") (by decide +kernel)) (fun _ h9 => h9) rfl dX6_fillColours_144 ?_
      obtain ⟨x42, ex42, hF⟩ := ltt_some hF
      refine lv_topi (fun zx42 ezx42 => ?_)
      obtain rfl : x42 = zx42 := ex42.trans ezx42.symm
      refine lv_imul hx hb dX6_fillColours_147 ?_
      obtain ⟨x43, ex43, hF⟩ := ltt_some hF
      refine lv_topi (fun zx43 ezx43 => ?_)
      obtain rfl : x43 = zx43 := ex43.trans ezx43.symm
      refine lv_sipush (v := (192 : Int32)) hx hb dX6_fillColours_148 (by decide) ?_
      refine lv_bipush (v := (64 : Int32)) hx hb dX6_fillColours_151 (by decide) ?_
      refine lv_iload hx hb dX6_fillColours_153 (lv_at hl 3 rfl) ?_
      refine lv_imul hx hb dX6_fillColours_155 ?_
      obtain ⟨x44, ex44, hF⟩ := ltt_some hF
      refine lv_topi (fun zx44 ezx44 => ?_)
      obtain rfl : x44 = zx44 := ex44.trans ezx44.symm
      refine lv_iadd hx hb dX6_fillColours_156 ?_
      obtain ⟨x45, ex45, hF⟩ := ltt_some hF
      refine lv_topi (fun zx45 ezx45 => ?_)
      obtain rfl : x45 = zx45 := ex45.trans ezx45.symm
      refine lv_bipush (v := (8 : Int32)) hx hb dX6_fillColours_157 (by decide) ?_
      refine lv_iload hx hb dX6_fillColours_159 (lv_at hl 0 rfl) ?_
      refine lv_imul hx hb dX6_fillColours_161 ?_
      obtain ⟨x46, ex46, hF⟩ := ltt_some hF
      refine lv_topi (fun zx46 ezx46 => ?_)
      obtain rfl : x46 = zx46 := ex46.trans ezx46.symm
      refine lv_iadd hx hb dX6_fillColours_162 ?_
      obtain ⟨x47, ex47, hF⟩ := ltt_some hF
      refine lv_topi (fun zx47 ezx47 => ?_)
      obtain rfl : x47 = zx47 := ex47.trans ezx47.symm
      refine lv_iload hx hb dX6_fillColours_163 (lv_at hl 1 rfl) ?_
      refine lv_iadd hx hb dX6_fillColours_165 ?_
      obtain ⟨x48, ex48, hF⟩ := ltt_some hF
      refine lv_topi (fun zx48 ezx48 => ?_)
      obtain rfl : x48 = zx48 := ex48.trans ezx48.symm
      refine lv_bipush (v := (8 : Int32)) hx hb dX6_fillColours_166 (by decide) ?_
      obtain ⟨y49, hy49, hF⟩ := bnd_some hF
      have hf9 := wA_in hD hA9 hS
      refine va_callv (va_runV (As := [va_re ad (M37.2 b39 s2.1.toNatClampNeg), .int y40.2, .int x43, .int x48, .int (8 : Int32)]) (rest := []) ⟨hx, hb, hml, hown, hts⟩ (kX6_fillPiece l D ct ad Z G y40.1 H.size a ((M37.2 b39 s2.1.toNatClampNeg)) y40.2 x43 x48 ((8 : Int32)) y49 hc hk hy49) (cwV 5 hts gX6_fillColours_X6_fillPiece rfl rfl rfl (by decide +kernel) ⟨Nat.le_of_ble_eq_true rfl, Nat.le_of_ble_eq_true rfl⟩) ⟨fun a U g mk q => by obtain ⟨q0, q1, qP, qK, qD, qZ, qN⟩ := q; exact ⟨q0, q1, qP, va_K.moved (u := U) (U := U.calling g mk a) (Vm.Alike.refl U.vm) qK, qD, sF.moved (u := U) (U := U.calling g mk a) (Vm.Alike.refl U.vm) qZ, nF.same rfl qN⟩, va_recv hK hP (ci := 6) (q0 := a) rfl (wld_o ct ad G y40.1 hc hk (by decide)), fun U hU hW => ⟨rfl, by rw [hU], by rw [hU]; exact hP, va_K.moved hW.alike hK, hD.weaken (fun _ _ _ _ => trivial), by rw [hU]; exact ((hZ.kept hS.2.1).narrow hf9).moved hW.alike, hN.warm hW⟩⟩ rfl rfl hl.1 rfl (lv_room (Nat.le_of_ble_eq_true rfl)) dX6_fillColours_168 ⟨(Nat.zero_le _), (Nat.zero_le _)⟩) hS (fun q _ h => hf9 q h) hf9 (fun u t H locs ht hvm hw hB hz1 hk1 hS => ?_)
      obtain ⟨hP, hK9, hD9⟩ := hB
      rw [ht] at hP
      have hD := hD9.weaken (fun _ q _ h => hf9 q.1 h)
      obtain ⟨x50, ex50, hF⟩ := ltt_some hF
      refine lv_iinc (v := x50) (lv' := [(5, .int x50), (7, .int x22), (6, .int x20), (4, .int s2.1), (0, .ref (ad a)), (1, va_re ad p0), (2, .int p1), (3, .int p2)]) hx hb dX6_fillColours_171 hl (k := 2) rfl (by rw [ex50]; rfl) (by decide) rfl (fun ls hl => ?_)
      refine lv_goto (tgt := 38) hx hb dX6_fillColours_174 (by decide) ?_
      obtain rfl := Option.some.inj hF
      exact hwz17 _ _ _ hP hD hS (lv_sub hl [0, 3, 4, 5, 6, 7] rfl)
