set_option maxRecDepth 20000 in
theorem gX2_measure_X9_pieceX : GoodIn wuX2_measure (va_wsS RX2 78 yX9_pieceX wuX9_pieceX) := gu_S mw_948 mw_949 mw_171 mw_950
set_option maxRecDepth 20000 in
set_option maxRecDepth 20000 in
theorem gX2_measure_X9_pieceY : GoodIn wuX2_measure (va_wsS RX2 82 yX9_pieceY wuX9_pieceY) := gu_S mw_951 mw_952 mw_171 mw_953
set_option maxRecDepth 20000 in
set_option maxRecDepth 20000 in
theorem gX2_measure_X2_strengthOf : GoodIn wuX2_measure (va_wsS RX2 85 yX2_strengthOf wuX2_strengthOf) := gu_S mw_954 mw_955 mw_173 mw_956
theorem dX2_measure_0 : decode cX2_measure 0 = .ok (.aload_n 1, 1) := by decide +kernel
theorem dX2_measure_1 : decode cX2_measure 1 = .ok (.getfield 15, 3) := by decide +kernel
theorem dX2_measure_4 : decode cX2_measure 4 = .ok (.getfield 49, 3) := by decide +kernel
theorem dX2_measure_7 : decode cX2_measure 7 = .ok (.istore_n 3, 1) := by decide +kernel
theorem dX2_measure_8 : decode cX2_measure 8 = .ok (.aload_n 1, 1) := by decide +kernel
theorem dX2_measure_9 : decode cX2_measure 9 = .ok (.getfield 75, 3) := by decide +kernel
theorem dX2_measure_12 : decode cX2_measure 12 = .ok (.iconst 3, 1) := by decide +kernel
theorem dX2_measure_13 : decode cX2_measure 13 = .ok (.iload_n 2, 1) := by decide +kernel
theorem dX2_measure_14 : decode cX2_measure 14 = .ok (.imul, 1) := by decide +kernel
theorem dX2_measure_15 : decode cX2_measure 15 = .ok (.iaload, 1) := by decide +kernel
theorem dX2_measure_16 : decode cX2_measure 16 = .ok (.istore 4, 2) := by decide +kernel
theorem dX2_measure_18 : decode cX2_measure 18 = .ok (.iconst 0, 1) := by decide +kernel
theorem dX2_measure_19 : decode cX2_measure 19 = .ok (.istore 5, 2) := by decide +kernel
theorem dX2_measure_21 : decode cX2_measure 21 = .ok (.iload 5, 2) := by decide +kernel
theorem dX2_measure_23 : decode cX2_measure 23 = .ok (.iconst 2, 1) := by decide +kernel
theorem dX2_measure_24 : decode cX2_measure 24 = .ok (.if_icmp .ge 255, 3) := by decide +kernel
theorem dX2_measure_27 : decode cX2_measure 27 = .ok (.iload 5, 2) := by decide +kernel
theorem dX2_measure_29 : decode cX2_measure 29 = .ok (.ifCond .ne 19, 3) := by decide +kernel
theorem dX2_measure_32 : decode cX2_measure 32 = .ok (.iload_n 2, 1) := by decide +kernel
theorem dX2_measure_33 : decode cX2_measure 33 = .ok (.iload_n 3, 1) := by decide +kernel
theorem dX2_measure_34 : decode cX2_measure 34 = .ok (.irem, 1) := by decide +kernel
theorem dX2_measure_35 : decode cX2_measure 35 = .ok (.ifCond .le 9, 3) := by decide +kernel
theorem dX2_measure_38 : decode cX2_measure 38 = .ok (.iload_n 2, 1) := by decide +kernel
theorem dX2_measure_39 : decode cX2_measure 39 = .ok (.iconst 1, 1) := by decide +kernel
theorem dX2_measure_40 : decode cX2_measure 40 = .ok (.isub, 1) := by decide +kernel
theorem dX2_measure_41 : decode cX2_measure 41 = .ok (.goto 10, 3) := by decide +kernel
theorem dX2_measure_44 : decode cX2_measure 44 = .ok (.iconst (-1), 1) := by decide +kernel
theorem dX2_measure_45 : decode cX2_measure 45 = .ok (.goto 6, 3) := by decide +kernel
theorem dX2_measure_48 : decode cX2_measure 48 = .ok (.iload_n 2, 1) := by decide +kernel
theorem dX2_measure_49 : decode cX2_measure 49 = .ok (.iload_n 3, 1) := by decide +kernel
theorem dX2_measure_50 : decode cX2_measure 50 = .ok (.isub, 1) := by decide +kernel
theorem dX2_measure_51 : decode cX2_measure 51 = .ok (.istore 6, 2) := by decide +kernel
theorem dX2_measure_53 : decode cX2_measure 53 = .ok (.iload 6, 2) := by decide +kernel
theorem dX2_measure_55 : decode cX2_measure 55 = .ok (.ifCond .lt 41, 3) := by decide +kernel
theorem dX2_measure_58 : decode cX2_measure 58 = .ok (.iload 4, 2) := by decide +kernel
theorem dX2_measure_60 : decode cX2_measure 60 = .ok (.iconst 2, 1) := by decide +kernel
theorem dX2_measure_61 : decode cX2_measure 61 = .ok (.if_icmp .ne 31, 3) := by decide +kernel
theorem dX2_measure_64 : decode cX2_measure 64 = .ok (.aload_n 1, 1) := by decide +kernel
theorem dX2_measure_65 : decode cX2_measure 65 = .ok (.getfield 27, 3) := by decide +kernel
theorem dX2_measure_68 : decode cX2_measure 68 = .ok (.bipush 8, 2) := by decide +kernel
theorem dX2_measure_70 : decode cX2_measure 70 = .ok (.iload_n 2, 1) := by decide +kernel
theorem dX2_measure_71 : decode cX2_measure 71 = .ok (.imul, 1) := by decide +kernel
theorem dX2_measure_72 : decode cX2_measure 72 = .ok (.bipush 6, 2) := by decide +kernel
theorem dX2_measure_74 : decode cX2_measure 74 = .ok (.iadd, 1) := by decide +kernel
theorem dX2_measure_75 : decode cX2_measure 75 = .ok (.iaload, 1) := by decide +kernel
theorem dX2_measure_76 : decode cX2_measure 76 = .ok (.aload_n 1, 1) := by decide +kernel
theorem dX2_measure_77 : decode cX2_measure 77 = .ok (.getfield 27, 3) := by decide +kernel
theorem dX2_measure_80 : decode cX2_measure 80 = .ok (.bipush 8, 2) := by decide +kernel
theorem dX2_measure_82 : decode cX2_measure 82 = .ok (.iload 6, 2) := by decide +kernel
theorem dX2_measure_84 : decode cX2_measure 84 = .ok (.imul, 1) := by decide +kernel
theorem dX2_measure_85 : decode cX2_measure 85 = .ok (.bipush 6, 2) := by decide +kernel
theorem dX2_measure_87 : decode cX2_measure 87 = .ok (.iadd, 1) := by decide +kernel
theorem dX2_measure_88 : decode cX2_measure 88 = .ok (.iaload, 1) := by decide +kernel
theorem dX2_measure_89 : decode cX2_measure 89 = .ok (.if_icmp .ne 7, 3) := by decide +kernel
theorem dX2_measure_92 : decode cX2_measure 92 = .ok (.iconst 1, 1) := by decide +kernel
theorem dX2_measure_93 : decode cX2_measure 93 = .ok (.goto 4, 3) := by decide +kernel
theorem dX2_measure_96 : decode cX2_measure 96 = .ok (.iconst 0, 1) := by decide +kernel
theorem dX2_measure_97 : decode cX2_measure 97 = .ok (.istore 7, 2) := by decide +kernel
theorem dX2_measure_99 : decode cX2_measure 99 = .ok (.iconst 0, 1) := by decide +kernel
theorem dX2_measure_100 : decode cX2_measure 100 = .ok (.istore 8, 2) := by decide +kernel
theorem dX2_measure_102 : decode cX2_measure 102 = .ok (.iload 8, 2) := by decide +kernel
theorem dX2_measure_104 : decode cX2_measure 104 = .ok (.bipush 16, 2) := by decide +kernel
theorem dX2_measure_106 : decode cX2_measure 106 = .ok (.if_icmp .ge 167, 3) := by decide +kernel
theorem dX2_measure_109 : decode cX2_measure 109 = .ok (.iload 8, 2) := by decide +kernel
theorem dX2_measure_111 : decode cX2_measure 111 = .ok (.invokestatic 78, 3) := by decide +kernel
theorem dX2_measure_114 : decode cX2_measure 114 = .ok (.iload 5, 2) := by decide +kernel
theorem dX2_measure_116 : decode cX2_measure 116 = .ok (.ifCond .ne 7, 3) := by decide +kernel
theorem dX2_measure_119 : decode cX2_measure 119 = .ok (.iconst 4, 1) := by decide +kernel
theorem dX2_measure_120 : decode cX2_measure 120 = .ok (.goto 4, 3) := by decide +kernel
theorem dX2_measure_123 : decode cX2_measure 123 = .ok (.iconst 0, 1) := by decide +kernel
theorem dX2_measure_124 : decode cX2_measure 124 = .ok (.isub, 1) := by decide +kernel
theorem dX2_measure_125 : decode cX2_measure 125 = .ok (.istore 9, 2) := by decide +kernel
theorem dX2_measure_127 : decode cX2_measure 127 = .ok (.iload 8, 2) := by decide +kernel
theorem dX2_measure_129 : decode cX2_measure 129 = .ok (.invokestatic 82, 3) := by decide +kernel
theorem dX2_measure_132 : decode cX2_measure 132 = .ok (.iload 5, 2) := by decide +kernel
theorem dX2_measure_134 : decode cX2_measure 134 = .ok (.iconst 1, 1) := by decide +kernel
theorem dX2_measure_135 : decode cX2_measure 135 = .ok (.if_icmp .ne 7, 3) := by decide +kernel
theorem dX2_measure_138 : decode cX2_measure 138 = .ok (.iconst 4, 1) := by decide +kernel
theorem dX2_measure_139 : decode cX2_measure 139 = .ok (.goto 4, 3) := by decide +kernel
theorem dX2_measure_142 : decode cX2_measure 142 = .ok (.iconst 0, 1) := by decide +kernel
theorem dX2_measure_143 : decode cX2_measure 143 = .ok (.isub, 1) := by decide +kernel
theorem dX2_measure_144 : decode cX2_measure 144 = .ok (.istore 10, 2) := by decide +kernel
theorem dX2_measure_146 : decode cX2_measure 146 = .ok (.iload 9, 2) := by decide +kernel
theorem dX2_measure_148 : decode cX2_measure 148 = .ok (.ifCond .lt 12, 3) := by decide +kernel
theorem dX2_measure_151 : decode cX2_measure 151 = .ok (.iload 10, 2) := by decide +kernel
theorem dX2_measure_153 : decode cX2_measure 153 = .ok (.ifCond .lt 7, 3) := by decide +kernel
theorem dX2_measure_156 : decode cX2_measure 156 = .ok (.iconst 1, 1) := by decide +kernel
theorem dX2_measure_157 : decode cX2_measure 157 = .ok (.goto 4, 3) := by decide +kernel
theorem dX2_measure_160 : decode cX2_measure 160 = .ok (.iconst 0, 1) := by decide +kernel
theorem dX2_measure_161 : decode cX2_measure 161 = .ok (.istore 11, 2) := by decide +kernel
theorem dX2_measure_163 : decode cX2_measure 163 = .ok (.iconst 0, 1) := by decide +kernel
theorem dX2_measure_164 : decode cX2_measure 164 = .ok (.istore 12, 2) := by decide +kernel
theorem dX2_measure_166 : decode cX2_measure 166 = .ok (.iload 4, 2) := by decide +kernel
theorem dX2_measure_168 : decode cX2_measure 168 = .ok (.iconst 1, 1) := by decide +kernel
theorem dX2_measure_169 : decode cX2_measure 169 = .ok (.if_icmp .eq 79, 3) := by decide +kernel
theorem dX2_measure_172 : decode cX2_measure 172 = .ok (.iload 11, 2) := by decide +kernel
theorem dX2_measure_174 : decode cX2_measure 174 = .ok (.ifCond .ne 8, 3) := by decide +kernel
theorem dX2_measure_177 : decode cX2_measure 177 = .ok (.iload 7, 2) := by decide +kernel
theorem dX2_measure_179 : decode cX2_measure 179 = .ok (.ifCond .eq 69, 3) := by decide +kernel
theorem dX2_measure_182 : decode cX2_measure 182 = .ok (.iload 10, 2) := by decide +kernel
theorem dX2_measure_184 : decode cX2_measure 184 = .ok (.iconst 3, 1) := by decide +kernel
theorem dX2_measure_185 : decode cX2_measure 185 = .ok (.ishr, 1) := by decide +kernel
theorem dX2_measure_186 : decode cX2_measure 186 = .ok (.iconst 1, 1) := by decide +kernel
theorem dX2_measure_187 : decode cX2_measure 187 = .ok (.iand, 1) := by decide +kernel
theorem dX2_measure_188 : decode cX2_measure 188 = .ok (.bipush 8, 2) := by decide +kernel
theorem dX2_measure_190 : decode cX2_measure 190 = .ok (.imul, 1) := by decide +kernel
theorem dX2_measure_191 : decode cX2_measure 191 = .ok (.iload 9, 2) := by decide +kernel
theorem dX2_measure_193 : decode cX2_measure 193 = .ok (.iconst 3, 1) := by decide +kernel
theorem dX2_measure_194 : decode cX2_measure 194 = .ok (.ishr, 1) := by decide +kernel
theorem dX2_measure_195 : decode cX2_measure 195 = .ok (.iconst 1, 1) := by decide +kernel
theorem dX2_measure_196 : decode cX2_measure 196 = .ok (.iand, 1) := by decide +kernel
theorem dX2_measure_197 : decode cX2_measure 197 = .ok (.iconst 4, 1) := by decide +kernel
theorem dX2_measure_198 : decode cX2_measure 198 = .ok (.imul, 1) := by decide +kernel
theorem dX2_measure_199 : decode cX2_measure 199 = .ok (.iadd, 1) := by decide +kernel
theorem dX2_measure_200 : decode cX2_measure 200 = .ok (.iload 10, 2) := by decide +kernel
theorem dX2_measure_202 : decode cX2_measure 202 = .ok (.iconst 2, 1) := by decide +kernel
theorem dX2_measure_203 : decode cX2_measure 203 = .ok (.ishr, 1) := by decide +kernel
theorem dX2_measure_204 : decode cX2_measure 204 = .ok (.iconst 1, 1) := by decide +kernel
theorem dX2_measure_205 : decode cX2_measure 205 = .ok (.iand, 1) := by decide +kernel
theorem dX2_measure_206 : decode cX2_measure 206 = .ok (.iconst 2, 1) := by decide +kernel
theorem dX2_measure_207 : decode cX2_measure 207 = .ok (.imul, 1) := by decide +kernel
theorem dX2_measure_208 : decode cX2_measure 208 = .ok (.iadd, 1) := by decide +kernel
theorem dX2_measure_209 : decode cX2_measure 209 = .ok (.iload 9, 2) := by decide +kernel
theorem dX2_measure_211 : decode cX2_measure 211 = .ok (.iconst 2, 1) := by decide +kernel
theorem dX2_measure_212 : decode cX2_measure 212 = .ok (.ishr, 1) := by decide +kernel
theorem dX2_measure_213 : decode cX2_measure 213 = .ok (.iconst 1, 1) := by decide +kernel
theorem dX2_measure_214 : decode cX2_measure 214 = .ok (.iand, 1) := by decide +kernel
theorem dX2_measure_215 : decode cX2_measure 215 = .ok (.iadd, 1) := by decide +kernel
theorem dX2_measure_216 : decode cX2_measure 216 = .ok (.istore 13, 2) := by decide +kernel
theorem dX2_measure_218 : decode cX2_measure 218 = .ok (.aload_n 1, 1) := by decide +kernel
theorem dX2_measure_219 : decode cX2_measure 219 = .ok (.bipush 16, 2) := by decide +kernel
theorem dX2_measure_221 : decode cX2_measure 221 = .ok (.iload 11, 2) := by decide +kernel
theorem dX2_measure_223 : decode cX2_measure 223 = .ok (.ifCond .eq 7, 3) := by decide +kernel
theorem dX2_measure_226 : decode cX2_measure 226 = .ok (.iload_n 2, 1) := by decide +kernel
theorem dX2_measure_227 : decode cX2_measure 227 = .ok (.goto 5, 3) := by decide +kernel
theorem dX2_measure_230 : decode cX2_measure 230 = .ok (.iload 6, 2) := by decide +kernel
theorem dX2_measure_232 : decode cX2_measure 232 = .ok (.imul, 1) := by decide +kernel
theorem dX2_measure_233 : decode cX2_measure 233 = .ok (.iload 13, 2) := by decide +kernel
theorem dX2_measure_235 : decode cX2_measure 235 = .ok (.iadd, 1) := by decide +kernel
theorem dX2_measure_236 : decode cX2_measure 236 = .ok (.bipush 16, 2) := by decide +kernel
theorem dX2_measure_238 : decode cX2_measure 238 = .ok (.iload_n 2, 1) := by decide +kernel
theorem dX2_measure_239 : decode cX2_measure 239 = .ok (.imul, 1) := by decide +kernel
theorem dX2_measure_240 : decode cX2_measure 240 = .ok (.iload 8, 2) := by decide +kernel
theorem dX2_measure_242 : decode cX2_measure 242 = .ok (.iadd, 1) := by decide +kernel
theorem dX2_measure_243 : decode cX2_measure 243 = .ok (.invokestatic 85, 3) := by decide +kernel
theorem dX2_measure_246 : decode cX2_measure 246 = .ok (.istore 12, 2) := by decide +kernel
theorem dX2_measure_248 : decode cX2_measure 248 = .ok (.aload_n 0, 1) := by decide +kernel
theorem dX2_measure_249 : decode cX2_measure 249 = .ok (.getfield 9, 3) := by decide +kernel
theorem dX2_measure_252 : decode cX2_measure 252 = .ok (.iconst 2, 1) := by decide +kernel
theorem dX2_measure_253 : decode cX2_measure 253 = .ok (.bipush 16, 2) := by decide +kernel
theorem dX2_measure_255 : decode cX2_measure 255 = .ok (.iload_n 2, 1) := by decide +kernel
theorem dX2_measure_256 : decode cX2_measure 256 = .ok (.imul, 1) := by decide +kernel
theorem dX2_measure_257 : decode cX2_measure 257 = .ok (.iload 8, 2) := by decide +kernel
theorem dX2_measure_259 : decode cX2_measure 259 = .ok (.iadd, 1) := by decide +kernel
theorem dX2_measure_260 : decode cX2_measure 260 = .ok (.imul, 1) := by decide +kernel
theorem dX2_measure_261 : decode cX2_measure 261 = .ok (.iload 5, 2) := by decide +kernel
theorem dX2_measure_263 : decode cX2_measure 263 = .ok (.iadd, 1) := by decide +kernel
theorem dX2_measure_264 : decode cX2_measure 264 = .ok (.iload 12, 2) := by decide +kernel
theorem dX2_measure_266 : decode cX2_measure 266 = .ok (.iastore, 1) := by decide +kernel
theorem dX2_measure_267 : decode cX2_measure 267 = .ok (.iinc 8 1, 3) := by decide +kernel
theorem dX2_measure_270 : decode cX2_measure 270 = .ok (.goto (-168), 3) := by decide +kernel
theorem dX2_measure_273 : decode cX2_measure 273 = .ok (.iinc 5 1, 3) := by decide +kernel
theorem dX2_measure_276 : decode cX2_measure 276 = .ok (.goto (-255), 3) := by decide +kernel
theorem dX2_measure_279 : decode cX2_measure 279 = .ok (.return_, 1) := by decide +kernel
def FX2_measure (G : GG) (M : DD) (a : Nat) (p0 : Option Nat) (p1 : Int32) : Option (DD) :=
  dr G 9 p0 fun b2 =>
  dr G 4 ((M.2 b2 0)) fun b3 =>
  ltt (M.1 b3 1) fun x4 =>
  ltt ((((3 : Int32)) * p1)) fun x5 =>
  dr G 13 ((M.2 b2 10)) fun b6 =>
  chk (¬ (x5 < 0 ∨ G.2.2 b6 ≤ x5.toNatClampNeg)) <|
  ltt (M.1 b6 x5.toNatClampNeg) fun x7 =>
  bnd (itr (fun (s9 : Int32 × DD) => ((if ((2 : Int32)) ≤ s9.1 then (some (.inr (s9.1, s9.2))) else
  (bnd (if s9.1 = ((0 : Int32)) then (chk (¬ x4 = 0) <|
  ltt (p1 - p1 / x4 * x4) fun x102 =>
  bnd (if x102 ≤ ((0 : Int32)) then (some ((-1 : Int32))) else
  (ltt ((p1 - ((1 : Int32)))) fun x105 =>
  some (x105))) fun (y103 : Int32) =>
  some (y103)) else
  (ltt ((p1 - x4)) fun x101 =>
  some (x101))) fun (y13 : Int32) =>
  bnd (if y13 < ((0 : Int32)) then (some ((0 : Int32))) else
  (bnd (if x7 = ((2 : Int32)) then (ltt ((((8 : Int32)) * p1)) fun x91 =>
  ltt ((x91 + ((6 : Int32)))) fun x92 =>
  dr G 13 ((s9.2.2 b2 6)) fun b93 =>
  chk (¬ (x92 < 0 ∨ G.2.2 b93 ≤ x92.toNatClampNeg)) <|
  ltt (s9.2.1 b93 x92.toNatClampNeg) fun x94 =>
  ltt ((((8 : Int32)) * y13)) fun x95 =>
  ltt ((x95 + ((6 : Int32)))) fun x96 =>
  chk (¬ (x96 < 0 ∨ G.2.2 b93 ≤ x96.toNatClampNeg)) <|
  ltt (s9.2.1 b93 x96.toNatClampNeg) fun x97 =>
  bnd (if x94 = x97 then (some ((1 : Int32))) else
  (some ((0 : Int32)))) fun (y98 : Int32) =>
  some (y98)) else
  (some ((1 : Int32)))) fun (y89 : Int32) =>
  some (y89))) fun (y14 : Int32) =>
  bnd (itr (fun (s16 : Int32 × DD) => ((if ((16 : Int32)) ≤ s16.1 then (some (.inr (s16.1, s16.2))) else
  (bnd (FX9_pieceX G s16.2 s16.1) fun y21 =>
  bnd (if s9.1 = ((0 : Int32)) then (some ((4 : Int32))) else
  (some ((0 : Int32)))) fun (y22 : Int32) =>
  ltt ((y21.2 - y22)) fun x23 =>
  bnd (FX9_pieceY G y21.1 s16.1) fun y24 =>
  bnd (if s9.1 = ((1 : Int32)) then (some ((4 : Int32))) else
  (some ((0 : Int32)))) fun (y25 : Int32) =>
  ltt ((y24.2 - y25)) fun x26 =>
  bnd (if x23 < ((0 : Int32)) then (some ((0 : Int32))) else
  (bnd (if x26 < ((0 : Int32)) then (some ((0 : Int32))) else
  (some ((1 : Int32)))) fun (y84 : Int32) =>
  some (y84))) fun (y27 : Int32) =>
  bnd (if x7 = ((1 : Int32)) then (some ((0 : Int32), y24.1)) else
  (bnd (if y27 = ((0 : Int32)) then (bnd (if y14 = ((0 : Int32)) then (some ((0 : Int32), y24.1)) else
  (ltt ((x26 >>> (((3 : Int32)) &&& 31))) fun x62 =>
  ltt ((x62 &&& ((1 : Int32)))) fun x63 =>
  ltt ((x63 * ((8 : Int32)))) fun x64 =>
  ltt ((x23 >>> (((3 : Int32)) &&& 31))) fun x65 =>
  ltt ((x65 &&& ((1 : Int32)))) fun x66 =>
  ltt ((x66 * ((4 : Int32)))) fun x67 =>
  ltt ((x64 + x67)) fun x68 =>
  ltt ((x26 >>> (((2 : Int32)) &&& 31))) fun x69 =>
  ltt ((x69 &&& ((1 : Int32)))) fun x70 =>
  ltt ((x70 * ((2 : Int32)))) fun x71 =>
  ltt ((x68 + x71)) fun x72 =>
  ltt ((x23 >>> (((2 : Int32)) &&& 31))) fun x73 =>
  ltt ((x73 &&& ((1 : Int32)))) fun x74 =>
  ltt ((x72 + x74)) fun x75 =>
  bnd (if y27 = ((0 : Int32)) then (some (y13)) else
  (some (p1))) fun (y76 : Int32) =>
  ltt ((((16 : Int32)) * y76)) fun x77 =>
  ltt ((x77 + x75)) fun x78 =>
  ltt ((((16 : Int32)) * p1)) fun x79 =>
  ltt ((x79 + s16.1)) fun x80 =>
  bnd (FX2_strengthOf G y24.1 p0 x78 x80) fun y81 =>
  some (y81.2, y81.1))) fun (y60 : Int32 × DD) =>
  some (y60.1, y60.2)) else
  (ltt ((x26 >>> (((3 : Int32)) &&& 31))) fun x39 =>
  ltt ((x39 &&& ((1 : Int32)))) fun x40 =>
  ltt ((x40 * ((8 : Int32)))) fun x41 =>
  ltt ((x23 >>> (((3 : Int32)) &&& 31))) fun x42 =>
  ltt ((x42 &&& ((1 : Int32)))) fun x43 =>
  ltt ((x43 * ((4 : Int32)))) fun x44 =>
  ltt ((x41 + x44)) fun x45 =>
  ltt ((x26 >>> (((2 : Int32)) &&& 31))) fun x46 =>
  ltt ((x46 &&& ((1 : Int32)))) fun x47 =>
  ltt ((x47 * ((2 : Int32)))) fun x48 =>
  ltt ((x45 + x48)) fun x49 =>
  ltt ((x23 >>> (((2 : Int32)) &&& 31))) fun x50 =>
  ltt ((x50 &&& ((1 : Int32)))) fun x51 =>
  ltt ((x49 + x51)) fun x52 =>
  bnd (if y27 = ((0 : Int32)) then (some (y13)) else
  (some (p1))) fun (y53 : Int32) =>
  ltt ((((16 : Int32)) * y53)) fun x54 =>
  ltt ((x54 + x52)) fun x55 =>
  ltt ((((16 : Int32)) * p1)) fun x56 =>
  ltt ((x56 + s16.1)) fun x57 =>
  bnd (FX2_strengthOf G y24.1 p0 x55 x57) fun y58 =>
  some (y58.2, y58.1))) fun (y37 : Int32 × DD) =>
  some (y37.1, y37.2))) fun (y28 : Int32 × DD) =>
  ltt ((((16 : Int32)) * p1)) fun x29 =>
  ltt ((x29 + s16.1)) fun x30 =>
  ltt ((((2 : Int32)) * x30)) fun x31 =>
  ltt ((x31 + s9.1)) fun x32 =>
  dr G 13 ((y28.2.2 a 0)) fun b33 =>
  chk (¬ (x32 < 0 ∨ G.2.2 b33 ≤ x32.toNatClampNeg)) <|
  ltt (uI y28.2 b33 x32.toNatClampNeg y28.1) fun M34 =>
  ltt (s16.1 + (1 : Int32)) fun x35 =>
  some (.inl (x35, M34)))) : Option ((Int32 × DD) ⊕ (Int32 × DD)))) 1000000 ((0 : Int32), s9.2)) fun (y15 : Int32 × DD) =>
  ltt (s9.1 + (1 : Int32)) fun x18 =>
  some (.inl (x18, y15.2)))) : Option ((Int32 × DD) ⊕ (Int32 × DD)))) 1000000 ((0 : Int32), M)) fun (y8 : Int32 × DD) =>
  some y8.2
set_option maxHeartbeats 4000000 in
set_option maxRecDepth 100000 in
theorem kX2_measure (l : Launch) (D : va_G) (ct : CT) (ad : Nat → Nat) (Z : Nat → Nat) (G : GG) (M : DD) (sz : Nat) (a : Nat) (p0 : Option Nat) (p1 : Int32) (y : DD) (hc : a < G.1) (hk : G.2.1 a = 2) (hF : FX2_measure G M a p0 p1 = some y) : Met l yX2_measure wuX2_measure ({ frames := 3, cells := 0, slots := 0, locals := 78 }) (va_Pc [.ref (ad a), va_re ad p0, .int p1] (kB D ct ad Z G M sz)) (va_Qv (fun (_ : Unit) => True) (fun _ t => kE D ct ad G (wA ad G sz) y t) (wA ad G sz)) 0 0 (wA ad G sz) := by
  refine Met.ofW (cc := cX2_measure) (maxL := 14) (ret := none) (by decide) rfl ?_
  intro p e s m args below meth c s₁ B hml hv
  obtain ⟨rfl, hsz, hP, hK, hD0, hZ, hN⟩ := hv
  have hx := B.exec
  have hb := B.bytes
  have hr := B.returns
  have hts := atoms_spec (ws := wuX2_measure) B.pre
  have hown : s.vm.findClass RX2 = some m.cls := findClass_of_methodNamed B.named
  have hlocks := B.notSynchronized
  subst hsz
  have hD := wD_self (sz := s.heap.size) hD0
  have hA9 : ∀ q, s.heap.size ≤ q → wA ad G s.heap.size q := fun q h => Or.inr h
  generalize hAe : wA ad G s.heap.size = A at hD hA9 hZ ⊢
  have hS : va_S A s.heap s.heap [] := va_S.rf
  have hl := lv_entry ([.ref (ad a), va_re ad p0, .int p1]) (n := 14) (by cases p0 <;> exact Nat.le_of_ble_eq_true rfl)
  rw [lg_entry_eq]
  generalize (lg_sl ([.ref (ad a), va_re ad p0, .int p1]) ++ List.replicate (14 - (lg_sl ([.ref (ad a), va_re ad p0, .int p1])).length) Slot.unset).toArray = ls at hl ⊢
  have hl : lv_has ls 14 [(0, .ref (ad a)), (1, va_re ad p0), (2, .int p1)] := by have e9 : lv_args 0 [.ref (ad a), va_re ad p0, .int p1] = [(0, .ref (ad a)), (1, va_re ad p0), (2, .int p1)] := (by cases p0 <;> rfl); rw [e9] at hl; exact hl
  unfold FX2_measure at hF
  refine lv_aloadq_n hx hb dX2_measure_0 rfl (lv_at hl 1 rfl) ?_
  obtain ⟨b2, ho2, hc2, hk2, hF⟩ := dr_some hF
  refine W_st (st' := [.ref (ad b2)]) (by rw [va_some ho2]) ?_
  refine va_get (D := D) (ci := 9) (v := va_re ad (M.2 b2 0)) (C := RX9) (T := TX9) (N := 20) hx hb hts (mus hf_X9) hown hK hP b2 (wld_o ct ad G M hc2 hk2 (by decide)) rfl 0 (by decide) (hts (.fieldLink RX2 15 "VideoSuite$Work" "pic" "LVideoSuite$Picture;") (mu mw_419)) (fun _ h9 => h9) rfl dX2_measure_1 ?_
  obtain ⟨b3, ho3, hc3, hk3, hF⟩ := dr_some hF
  refine W_st (st' := [.ref (ad b3)]) (by rw [va_some ho3]) ?_
  refine va_get (D := D) (ci := 4) (v := .int (M.1 b3 1)) (C := RX4) (T := TX4) (N := 18) hx hb hts (mus hf_X4) hown hK hP b3 (wld_o ct ad G M hc3 hk3 (by decide)) rfl 1 (by decide) (hts (.fieldLink RX2 49 "VideoSuite$Picture" "width" "I") (mu mw_1420)) (fun _ h9 => h9) rfl dX2_measure_4 ?_
  obtain ⟨x4, ex4, hF⟩ := ltt_some hF
  refine lv_topi (fun zx4 ezx4 => ?_)
  obtain rfl : x4 = zx4 := ex4.trans ezx4.symm
  refine lv_istore_n (lv' := [(3, .int x4), (0, .ref (ad a)), (1, va_re ad p0), (2, .int p1)]) hx hb dX2_measure_7 rfl hl (by decide) rfl (fun ls hl => ?_)
  refine lv_aloadq_n hx hb dX2_measure_8 rfl (lv_at hl 2 rfl) ?_
  refine W_st (st' := [.ref (ad b2)]) (by rw [va_some ho2]) ?_
  refine va_get (D := D) (ci := 9) (v := va_re ad (M.2 b2 10)) (C := RX9) (T := TX9) (N := 20) hx hb hts (mus hf_X9) hown hK hP b2 (wld_o ct ad G M hc2 hk2 (by decide)) rfl 10 (by decide) (hts (.fieldLink RX2 75 "VideoSuite$Work" "rule" "[I") (mu mw_459)) (fun _ h9 => h9) rfl dX2_measure_9 ?_
  refine lv_iconst (v := (3 : Int32)) hx hb dX2_measure_12 (by decide) ?_
  refine lv_iload_n hx hb dX2_measure_13 rfl (lv_at hl 3 rfl) ?_
  refine lv_imul hx hb dX2_measure_14 ?_
  obtain ⟨x5, ex5, hF⟩ := ltt_some hF
  refine lv_topi (fun zx5 ezx5 => ?_)
  obtain rfl : x5 = zx5 := ex5.trans ezx5.symm
  obtain ⟨b6, ho6, hc6, hk6, hF⟩ := dr_some hF
  refine W_st (st' := [.int x5, .ref (ad b6)]) (by rw [va_some ho6]) ?_
  obtain ⟨hvc, hF⟩ := chk_some hF
  refine va_iald hx hb hK hP b6 1 (wld_i ct ad G M hc6 hk6) rfl hvc dX2_measure_15 ?_
  obtain ⟨x7, ex7, hF⟩ := ltt_some hF
  refine lv_topi (fun zx7 ezx7 => ?_)
  obtain rfl : x7 = zx7 := ex7.trans ezx7.symm
  refine lv_istore (lv' := [(4, .int x7), (3, .int x4), (0, .ref (ad a)), (1, va_re ad p0), (2, .int p1)]) hx hb dX2_measure_16 hl (by decide) rfl (fun ls hl => ?_)
  refine lv_iconst (v := (0 : Int32)) hx hb dX2_measure_18 (by decide) ?_
  refine lv_istore (lv' := [(5, .int (0 : Int32)), (4, .int x7), (3, .int x4), (0, .ref (ad a)), (1, va_re ad p0), (2, .int p1)]) hx hb dX2_measure_19 hl (by decide) rfl (fun ls hl => ?_)
  obtain ⟨y8, hy8, hF⟩ := bnd_some hF
  have K8 : ∀ (H : Heap) (locs : List Loc) (ls : Array Slot), va_P D classes (wld ct ad G y8.2) H → va_D A (wld ct ad G y8.2) → va_S A s.heap H locs → lv_has ls 14 [(5, .int y8.1), (4, .int x7), (3, .int x4), (0, .ref (ad a)), (1, va_re ad p0), (2, .int p1)] → W p l e (headSpec wuX2_measure ({ frames := 3, cells := 0, slots := 0, locals := 78 })).room s m ([.ref (ad a), va_re ad p0, .int p1] : List Value).toArray below meth c H locs 0 0 (MQ below (va_Qv (fun (_ : Unit) => True) (fun _ t => kE D ct ad G A y t) A) ([.ref (ad a), va_re ad p0, .int p1] : List Value).toArray s 0 0 A) (F0 m 279 ls []) := by
    intro H locs ls hP hD hS hl
    obtain rfl := Option.some.inj hF
    exact W.vret hx hb hr (fun t ht hW => ⟨⟨(), rfl, trivial, ⟨by rw [ht]; exact hP, va_K.moved hW.alike hK, hD⟩⟩, hS.F ht⟩) hS.2.2 dX2_measure_279
  clear hF
  refine itr_rule (fun (s9 : Int32 × DD) => ∀ (H : Heap) (locs : List Loc) (ls : Array Slot), va_P D classes (wld ct ad G s9.2) H → va_D A (wld ct ad G s9.2) → va_S A s.heap H locs → lv_has ls 14 [(5, .int s9.1), (4, .int x7), (3, .int x4), (0, .ref (ad a)), (1, va_re ad p0), (2, .int p1)] → W p l e (headSpec wuX2_measure ({ frames := 3, cells := 0, slots := 0, locals := 78 })).room s m ([.ref (ad a), va_re ad p0, .int p1] : List Value).toArray below meth c H locs 0 0 (MQ below (va_Qv (fun (_ : Unit) => True) (fun _ t => kE D ct ad G A y t) A) ([.ref (ad a), va_re ad p0, .int p1] : List Value).toArray s 0 0 A) (F0 m 21 ls [])) ?_ _ _ hy8 _ _ _ hP hD hS (lv_sub hl [0, 1, 2, 3, 4, 5] rfl)
  rintro s9 ⟨z11, hF, hwz11⟩ H locs ls hP hD hS hl
  try dsimp only at hF
  refine lv_iload hx hb dX2_measure_21 (lv_at hl 0 rfl) ?_
  refine lv_iconst (v := (2 : Int32)) hx hb dX2_measure_23 (by decide) ?_
  refine lv_icmp_ge (tgt := 279) hx hb dX2_measure_24 (by decide) (fun c12 => ?_) (fun c12 => ?_)
  · rw [if_pos c12] at hF
    obtain rfl := Option.some.inj hF
    subst hwz11
    exact K8 _ _ _ hP hD hS (lv_sub hl [0, 1, 2, 3, 4, 5] rfl)
  · rw [if_neg c12] at hF
    refine lv_iload hx hb dX2_measure_27 (lv_at hl 0 rfl) ?_
    obtain ⟨y13, hy13, hF⟩ := bnd_some hF
    have J13 : ∀ (H : Heap) (locs : List Loc) (ls : Array Slot), va_P D classes (wld ct ad G s9.2) H → va_D A (wld ct ad G s9.2) → va_S A s.heap H locs → lv_has ls 14 [(5, .int s9.1), (4, .int x7), (3, .int x4), (0, .ref (ad a)), (1, va_re ad p0), (2, .int p1)] → W p l e (headSpec wuX2_measure ({ frames := 3, cells := 0, slots := 0, locals := 78 })).room s m ([.ref (ad a), va_re ad p0, .int p1] : List Value).toArray below meth c H locs 0 0 (MQ below (va_Qv (fun (_ : Unit) => True) (fun _ t => kE D ct ad G A y t) A) ([.ref (ad a), va_re ad p0, .int p1] : List Value).toArray s 0 0 A) (F0 m 51 ls [.int y13]) := by
      intro H locs ls hP hD hS hl
      refine lv_istore (lv' := [(6, .int y13), (5, .int s9.1), (4, .int x7), (3, .int x4), (0, .ref (ad a)), (1, va_re ad p0), (2, .int p1)]) hx hb dX2_measure_51 hl (by decide) rfl (fun ls hl => ?_)
      refine lv_iload hx hb dX2_measure_53 (lv_at hl 0 rfl) ?_
      obtain ⟨y14, hy14, hF⟩ := bnd_some hF
      have J14 : ∀ (H : Heap) (locs : List Loc) (ls : Array Slot), va_P D classes (wld ct ad G s9.2) H → va_D A (wld ct ad G s9.2) → va_S A s.heap H locs → lv_has ls 14 [(6, .int y13), (5, .int s9.1), (4, .int x7), (3, .int x4), (0, .ref (ad a)), (1, va_re ad p0), (2, .int p1)] → W p l e (headSpec wuX2_measure ({ frames := 3, cells := 0, slots := 0, locals := 78 })).room s m ([.ref (ad a), va_re ad p0, .int p1] : List Value).toArray below meth c H locs 0 0 (MQ below (va_Qv (fun (_ : Unit) => True) (fun _ t => kE D ct ad G A y t) A) ([.ref (ad a), va_re ad p0, .int p1] : List Value).toArray s 0 0 A) (F0 m 97 ls [.int y14]) := by
        intro H locs ls hP hD hS hl
        refine lv_istore (lv' := [(7, .int y14), (6, .int y13), (5, .int s9.1), (4, .int x7), (3, .int x4), (0, .ref (ad a)), (1, va_re ad p0), (2, .int p1)]) hx hb dX2_measure_97 hl (by decide) rfl (fun ls hl => ?_)
        refine lv_iconst (v := (0 : Int32)) hx hb dX2_measure_99 (by decide) ?_
        refine lv_istore (lv' := [(8, .int (0 : Int32)), (7, .int y14), (6, .int y13), (5, .int s9.1), (4, .int x7), (3, .int x4), (0, .ref (ad a)), (1, va_re ad p0), (2, .int p1)]) hx hb dX2_measure_100 hl (by decide) rfl (fun ls hl => ?_)
        obtain ⟨y15, hy15, hF⟩ := bnd_some hF
        have K15 : ∀ (H : Heap) (locs : List Loc) (ls : Array Slot), va_P D classes (wld ct ad G y15.2) H → va_D A (wld ct ad G y15.2) → va_S A s.heap H locs → lv_has ls 14 [(8, .int y15.1), (7, .int y14), (6, .int y13), (5, .int s9.1), (4, .int x7), (3, .int x4), (0, .ref (ad a)), (1, va_re ad p0), (2, .int p1)] → W p l e (headSpec wuX2_measure ({ frames := 3, cells := 0, slots := 0, locals := 78 })).room s m ([.ref (ad a), va_re ad p0, .int p1] : List Value).toArray below meth c H locs 0 0 (MQ below (va_Qv (fun (_ : Unit) => True) (fun _ t => kE D ct ad G A y t) A) ([.ref (ad a), va_re ad p0, .int p1] : List Value).toArray s 0 0 A) (F0 m 273 ls []) := by
          intro H locs ls hP hD hS hl
          obtain ⟨x18, ex18, hF⟩ := ltt_some hF
          refine lv_iinc (v := x18) (lv' := [(5, .int x18), (8, .int y15.1), (7, .int y14), (6, .int y13), (4, .int x7), (3, .int x4), (0, .ref (ad a)), (1, va_re ad p0), (2, .int p1)]) hx hb dX2_measure_273 hl (k := 3) rfl (by rw [ex18]; rfl) (by decide) rfl (fun ls hl => ?_)
          refine lv_goto (tgt := 21) hx hb dX2_measure_276 (by decide) ?_
          obtain rfl := Option.some.inj hF
          exact hwz11 _ _ _ hP hD hS (lv_sub hl [0, 4, 5, 6, 7, 8] rfl)
        clear hF
        refine itr_rule (fun (s16 : Int32 × DD) => ∀ (H : Heap) (locs : List Loc) (ls : Array Slot), va_P D classes (wld ct ad G s16.2) H → va_D A (wld ct ad G s16.2) → va_S A s.heap H locs → lv_has ls 14 [(8, .int s16.1), (7, .int y14), (6, .int y13), (5, .int s9.1), (4, .int x7), (3, .int x4), (0, .ref (ad a)), (1, va_re ad p0), (2, .int p1)] → W p l e (headSpec wuX2_measure ({ frames := 3, cells := 0, slots := 0, locals := 78 })).room s m ([.ref (ad a), va_re ad p0, .int p1] : List Value).toArray below meth c H locs 0 0 (MQ below (va_Qv (fun (_ : Unit) => True) (fun _ t => kE D ct ad G A y t) A) ([.ref (ad a), va_re ad p0, .int p1] : List Value).toArray s 0 0 A) (F0 m 102 ls [])) ?_ _ _ hy15 _ _ _ hP hD hS (lv_sub hl [0, 1, 2, 3, 4, 5, 6, 7, 8] rfl)
        rintro s16 ⟨z19, hF, hwz19⟩ H locs ls hP hD hS hl
        try dsimp only at hF
        refine lv_iload hx hb dX2_measure_102 (lv_at hl 0 rfl) ?_
        refine lv_bipush (v := (16 : Int32)) hx hb dX2_measure_104 (by decide) ?_
        refine lv_icmp_ge (tgt := 273) hx hb dX2_measure_106 (by decide) (fun c20 => ?_) (fun c20 => ?_)
        · rw [if_pos c20] at hF
          obtain rfl := Option.some.inj hF
          subst hwz19
          exact K15 _ _ _ hP hD hS (lv_sub hl [0, 1, 2, 3, 4, 5, 6, 7, 8] rfl)
        · rw [if_neg c20] at hF
          refine lv_iload hx hb dX2_measure_109 (lv_at hl 0 rfl) ?_
          obtain ⟨y21, hy21, hF⟩ := bnd_some hF
          have hf9 := wA_in hD hA9 hS
          refine va_calli (va_runS (As := [.int s16.1]) (rest := []) ⟨hx, hb, hml, hown, hts⟩ (kX9_pieceX l D ct ad Z G s16.2 H.size s16.1 y21 hy21) (va_cwS 1 hts gX2_measure_X9_pieceX rfl rfl rfl (by decide +kernel) ⟨Nat.le_of_ble_eq_true rfl, Nat.le_of_ble_eq_true rfl⟩) ⟨fun a U g mk q => by obtain ⟨q0, q1, qP, qK, qD, qZ, qN⟩ := q; exact ⟨q0, q1, qP, va_K.moved (u := U) (U := U.calling g mk a) (Vm.Alike.refl U.vm) qK, qD, sF.moved (u := U) (U := U.calling g mk a) (Vm.Alike.refl U.vm) qZ, nF.same rfl qN⟩, fun U hU hW => ⟨rfl, by rw [hU], by rw [hU]; exact hP, va_K.moved hW.alike hK, hD.weaken (fun _ _ _ _ => trivial), by rw [hU]; exact ((hZ.kept hS.2.1).narrow hf9).moved hW.alike, hN.warm hW⟩⟩ rfl rfl hl.1 rfl (lv_room (Nat.le_of_ble_eq_true rfl)) dX2_measure_111 ⟨(Nat.zero_le _), (Nat.zero_le _)⟩) hS (fun q _ h => hf9 q h) hf9 (fun r u t H locs ht hvm hw hB hz1 hk1 hS => ?_)
          obtain ⟨hP, hK9, hD9⟩ := hB
          rw [ht] at hP
          try dsimp only at hw
          subst hw
          have hD := hD9.weaken (fun _ q _ h => hf9 q.1 h)
          refine lv_iload hx hb dX2_measure_114 (lv_at hl 3 rfl) ?_
          obtain ⟨y22, hy22, hF⟩ := bnd_some hF
          have J22 : ∀ (H : Heap) (locs : List Loc) (ls : Array Slot), va_P D classes (wld ct ad G y21.1) H → va_D A (wld ct ad G y21.1) → va_S A s.heap H locs → lv_has ls 14 [(8, .int s16.1), (7, .int y14), (6, .int y13), (5, .int s9.1), (4, .int x7), (3, .int x4), (0, .ref (ad a)), (1, va_re ad p0), (2, .int p1)] → W p l e (headSpec wuX2_measure ({ frames := 3, cells := 0, slots := 0, locals := 78 })).room s m ([.ref (ad a), va_re ad p0, .int p1] : List Value).toArray below meth c H locs 0 0 (MQ below (va_Qv (fun (_ : Unit) => True) (fun _ t => kE D ct ad G A y t) A) ([.ref (ad a), va_re ad p0, .int p1] : List Value).toArray s 0 0 A) (F0 m 124 ls [.int y22, .int y21.2]) := by
            intro H locs ls hP hD hS hl
            refine lv_isub hx hb dX2_measure_124 ?_
            obtain ⟨x23, ex23, hF⟩ := ltt_some hF
            refine lv_topi (fun zx23 ezx23 => ?_)
            obtain rfl : x23 = zx23 := ex23.trans ezx23.symm
            refine lv_istore (lv' := [(9, .int x23), (8, .int s16.1), (7, .int y14), (6, .int y13), (5, .int s9.1), (4, .int x7), (3, .int x4), (0, .ref (ad a)), (1, va_re ad p0), (2, .int p1)]) hx hb dX2_measure_125 hl (by decide) rfl (fun ls hl => ?_)
            refine lv_iload hx hb dX2_measure_127 (lv_at hl 1 rfl) ?_
            obtain ⟨y24, hy24, hF⟩ := bnd_some hF
            have hf9 := wA_in hD hA9 hS
            refine va_calli (va_runS (As := [.int s16.1]) (rest := []) ⟨hx, hb, hml, hown, hts⟩ (kX9_pieceY l D ct ad Z G y21.1 H.size s16.1 y24 hy24) (va_cwS 1 hts gX2_measure_X9_pieceY rfl rfl rfl (by decide +kernel) ⟨Nat.le_of_ble_eq_true rfl, Nat.le_of_ble_eq_true rfl⟩) ⟨fun a U g mk q => by obtain ⟨q0, q1, qP, qK, qD, qZ, qN⟩ := q; exact ⟨q0, q1, qP, va_K.moved (u := U) (U := U.calling g mk a) (Vm.Alike.refl U.vm) qK, qD, sF.moved (u := U) (U := U.calling g mk a) (Vm.Alike.refl U.vm) qZ, nF.same rfl qN⟩, fun U hU hW => ⟨rfl, by rw [hU], by rw [hU]; exact hP, va_K.moved hW.alike hK, hD.weaken (fun _ _ _ _ => trivial), by rw [hU]; exact ((hZ.kept hS.2.1).narrow hf9).moved hW.alike, hN.warm hW⟩⟩ rfl rfl hl.1 rfl (lv_room (Nat.le_of_ble_eq_true rfl)) dX2_measure_129 ⟨(Nat.zero_le _), (Nat.zero_le _)⟩) hS (fun q _ h => hf9 q h) hf9 (fun r u t H locs ht hvm hw hB hz1 hk1 hS => ?_)
            obtain ⟨hP, hK9, hD9⟩ := hB
            rw [ht] at hP
            try dsimp only at hw
            subst hw
            have hD := hD9.weaken (fun _ q _ h => hf9 q.1 h)
            refine lv_iload hx hb dX2_measure_132 (lv_at hl 4 rfl) ?_
            refine lv_iconst (v := (1 : Int32)) hx hb dX2_measure_134 (by decide) ?_
            obtain ⟨y25, hy25, hF⟩ := bnd_some hF
            have J25 : ∀ (H : Heap) (locs : List Loc) (ls : Array Slot), va_P D classes (wld ct ad G y24.1) H → va_D A (wld ct ad G y24.1) → va_S A s.heap H locs → lv_has ls 14 [(9, .int x23), (8, .int s16.1), (7, .int y14), (6, .int y13), (5, .int s9.1), (4, .int x7), (3, .int x4), (0, .ref (ad a)), (1, va_re ad p0), (2, .int p1)] → W p l e (headSpec wuX2_measure ({ frames := 3, cells := 0, slots := 0, locals := 78 })).room s m ([.ref (ad a), va_re ad p0, .int p1] : List Value).toArray below meth c H locs 0 0 (MQ below (va_Qv (fun (_ : Unit) => True) (fun _ t => kE D ct ad G A y t) A) ([.ref (ad a), va_re ad p0, .int p1] : List Value).toArray s 0 0 A) (F0 m 143 ls [.int y25, .int y24.2]) := by
              intro H locs ls hP hD hS hl
              refine lv_isub hx hb dX2_measure_143 ?_
              obtain ⟨x26, ex26, hF⟩ := ltt_some hF
              refine lv_topi (fun zx26 ezx26 => ?_)
              obtain rfl : x26 = zx26 := ex26.trans ezx26.symm
              refine lv_istore (lv' := [(10, .int x26), (9, .int x23), (8, .int s16.1), (7, .int y14), (6, .int y13), (5, .int s9.1), (4, .int x7), (3, .int x4), (0, .ref (ad a)), (1, va_re ad p0), (2, .int p1)]) hx hb dX2_measure_144 hl (by decide) rfl (fun ls hl => ?_)
              refine lv_iload hx hb dX2_measure_146 (lv_at hl 1 rfl) ?_
              obtain ⟨y27, hy27, hF⟩ := bnd_some hF
              have J27 : ∀ (H : Heap) (locs : List Loc) (ls : Array Slot), va_P D classes (wld ct ad G y24.1) H → va_D A (wld ct ad G y24.1) → va_S A s.heap H locs → lv_has ls 14 [(10, .int x26), (9, .int x23), (8, .int s16.1), (7, .int y14), (6, .int y13), (5, .int s9.1), (4, .int x7), (3, .int x4), (0, .ref (ad a)), (1, va_re ad p0), (2, .int p1)] → W p l e (headSpec wuX2_measure ({ frames := 3, cells := 0, slots := 0, locals := 78 })).room s m ([.ref (ad a), va_re ad p0, .int p1] : List Value).toArray below meth c H locs 0 0 (MQ below (va_Qv (fun (_ : Unit) => True) (fun _ t => kE D ct ad G A y t) A) ([.ref (ad a), va_re ad p0, .int p1] : List Value).toArray s 0 0 A) (F0 m 161 ls [.int y27]) := by
                intro H locs ls hP hD hS hl
                refine lv_istore (lv' := [(11, .int y27), (10, .int x26), (9, .int x23), (8, .int s16.1), (7, .int y14), (6, .int y13), (5, .int s9.1), (4, .int x7), (3, .int x4), (0, .ref (ad a)), (1, va_re ad p0), (2, .int p1)]) hx hb dX2_measure_161 hl (by decide) rfl (fun ls hl => ?_)
                refine lv_iconst (v := (0 : Int32)) hx hb dX2_measure_163 (by decide) ?_
                refine lv_istore (lv' := [(12, .int (0 : Int32)), (11, .int y27), (10, .int x26), (9, .int x23), (8, .int s16.1), (7, .int y14), (6, .int y13), (5, .int s9.1), (4, .int x7), (3, .int x4), (0, .ref (ad a)), (1, va_re ad p0), (2, .int p1)]) hx hb dX2_measure_164 hl (by decide) rfl (fun ls hl => ?_)
                refine lv_iload hx hb dX2_measure_166 (lv_at hl 8 rfl) ?_
                refine lv_iconst (v := (1 : Int32)) hx hb dX2_measure_168 (by decide) ?_
                obtain ⟨y28, hy28, hF⟩ := bnd_some hF
                have J28 : ∀ (H : Heap) (locs : List Loc) (ls : Array Slot), va_P D classes (wld ct ad G y28.2) H → va_D A (wld ct ad G y28.2) → va_S A s.heap H locs → lv_has ls 14 [(12, .int y28.1), (11, .int y27), (10, .int x26), (9, .int x23), (8, .int s16.1), (7, .int y14), (6, .int y13), (5, .int s9.1), (4, .int x7), (3, .int x4), (0, .ref (ad a)), (1, va_re ad p0), (2, .int p1)] → W p l e (headSpec wuX2_measure ({ frames := 3, cells := 0, slots := 0, locals := 78 })).room s m ([.ref (ad a), va_re ad p0, .int p1] : List Value).toArray below meth c H locs 0 0 (MQ below (va_Qv (fun (_ : Unit) => True) (fun _ t => kE D ct ad G A y t) A) ([.ref (ad a), va_re ad p0, .int p1] : List Value).toArray s 0 0 A) (F0 m 248 ls []) := by
                  intro H locs ls hP hD hS hl
                  refine lv_aload_n hx hb dX2_measure_248 rfl (lv_at hl 10 rfl) ?_
                  refine va_get (D := D) (ci := 2) (v := va_re ad (y28.2.2 a 0)) (C := RX2) (T := TX2) (N := 7) hx hb hts (mus hf_X2) hown hK hP a (wld_o ct ad G y28.2 hc hk (by decide)) rfl 0 (by decide) (hts (.fieldLink RX2 9 "VideoSuite$Edges" "strength" "[I") (mu mw_585)) (fun _ h9 => h9) rfl dX2_measure_249 ?_
                  refine lv_iconst (v := (2 : Int32)) hx hb dX2_measure_252 (by decide) ?_
                  refine lv_bipush (v := (16 : Int32)) hx hb dX2_measure_253 (by decide) ?_
                  refine lv_iload_n hx hb dX2_measure_255 rfl (lv_at hl 12 rfl) ?_
                  refine lv_imul hx hb dX2_measure_256 ?_
                  obtain ⟨x29, ex29, hF⟩ := ltt_some hF
                  refine lv_topi (fun zx29 ezx29 => ?_)
                  obtain rfl : x29 = zx29 := ex29.trans ezx29.symm
                  refine lv_iload hx hb dX2_measure_257 (lv_at hl 4 rfl) ?_
                  refine lv_iadd hx hb dX2_measure_259 ?_
                  obtain ⟨x30, ex30, hF⟩ := ltt_some hF
                  refine lv_topi (fun zx30 ezx30 => ?_)
                  obtain rfl : x30 = zx30 := ex30.trans ezx30.symm
                  refine lv_imul hx hb dX2_measure_260 ?_
                  obtain ⟨x31, ex31, hF⟩ := ltt_some hF
                  refine lv_topi (fun zx31 ezx31 => ?_)
                  obtain rfl : x31 = zx31 := ex31.trans ezx31.symm
                  refine lv_iload hx hb dX2_measure_261 (lv_at hl 7 rfl) ?_
                  refine lv_iadd hx hb dX2_measure_263 ?_
                  obtain ⟨x32, ex32, hF⟩ := ltt_some hF
                  refine lv_topi (fun zx32 ezx32 => ?_)
                  obtain rfl : x32 = zx32 := ex32.trans ezx32.symm
                  refine lv_iload hx hb dX2_measure_264 (lv_at hl 0 rfl) ?_
                  obtain ⟨b33, ho33, hc33, hk33, hF⟩ := dr_some hF
                  refine W_st (st' := [.int y28.1, .int x32, .ref (ad b33)]) (by rw [va_some ho33]) ?_
                  obtain ⟨hvc, hF⟩ := chk_some hF
                  refine va_iast hx hb hK hP hD hS b33 1 (wld_i ct ad G y28.2 hc33 hk33) rfl hvc dX2_measure_266 (fun H locs hP hD hS => ?_)
                  obtain ⟨M34, eM34, hF⟩ := ltt_some hF
                  rw [set_i ct ad G y28.2 hc33 hk33, ← eM34] at hP hD
                  obtain ⟨x35, ex35, hF⟩ := ltt_some hF
                  refine lv_iinc (v := x35) (lv' := [(8, .int x35), (12, .int y28.1), (11, .int y27), (10, .int x26), (9, .int x23), (7, .int y14), (6, .int y13), (5, .int s9.1), (4, .int x7), (3, .int x4), (0, .ref (ad a)), (1, va_re ad p0), (2, .int p1)]) hx hb dX2_measure_267 hl (k := 4) rfl (by rw [ex35]; rfl) (by decide) rfl (fun ls hl => ?_)
                  refine lv_goto (tgt := 102) hx hb dX2_measure_270 (by decide) ?_
                  obtain rfl := Option.some.inj hF
                  exact hwz19 _ _ _ hP hD hS (lv_sub hl [0, 5, 6, 7, 8, 9, 10, 11, 12] rfl)
                clear hF
                have hF := hy28
                clear hy28
                refine lv_icmp_eq (tgt := 248) hx hb dX2_measure_169 (by decide) (fun c36 => ?_) (fun c36 => ?_)
                · rw [if_pos c36] at hF
                  obtain rfl := Option.some.inj hF
                  exact J28 _ _ _ hP hD hS (lv_sub hl [0, 1, 2, 3, 4, 5, 6, 7, 8, 9, 10, 11, 12] rfl)
                · rw [if_neg c36] at hF
                  refine lv_iload hx hb dX2_measure_172 (lv_at hl 1 rfl) ?_
                  obtain ⟨y37, hy37, hF⟩ := bnd_some hF
                  have J37 : ∀ (H : Heap) (locs : List Loc) (ls : Array Slot), va_P D classes (wld ct ad G y37.2) H → va_D A (wld ct ad G y37.2) → va_S A s.heap H locs → lv_has ls 14 [(12, .int y37.1), (11, .int y27), (10, .int x26), (9, .int x23), (8, .int s16.1), (7, .int y14), (6, .int y13), (5, .int s9.1), (4, .int x7), (3, .int x4), (0, .ref (ad a)), (1, va_re ad p0), (2, .int p1)] → W p l e (headSpec wuX2_measure ({ frames := 3, cells := 0, slots := 0, locals := 78 })).room s m ([.ref (ad a), va_re ad p0, .int p1] : List Value).toArray below meth c H locs 0 0 (MQ below (va_Qv (fun (_ : Unit) => True) (fun _ t => kE D ct ad G A y t) A) ([.ref (ad a), va_re ad p0, .int p1] : List Value).toArray s 0 0 A) (F0 m 248 ls []) := by
                    intro H locs ls hP hD hS hl
                    obtain rfl := Option.some.inj hF
                    exact J28 _ _ _ hP hD hS (lv_sub hl [0, 1, 2, 3, 4, 5, 6, 7, 8, 9, 10, 11, 12] rfl)
                  clear hF
                  have hF := hy37
                  clear hy37
                  refine lv_if_ne (tgt := 182) hx hb dX2_measure_174 (by decide) (fun c38 => ?_) (fun c38 => ?_)
                  · rw [if_neg c38] at hF
                    refine lv_iload hx hb dX2_measure_182 (lv_at hl 2 rfl) ?_
                    refine lv_iconst (v := (3 : Int32)) hx hb dX2_measure_184 (by decide) ?_
                    refine lv_ishr hx hb dX2_measure_185 ?_
                    obtain ⟨x39, ex39, hF⟩ := ltt_some hF
                    refine lv_topi (fun zx39 ezx39 => ?_)
                    obtain rfl : x39 = zx39 := ex39.trans ezx39.symm
                    refine lv_iconst (v := (1 : Int32)) hx hb dX2_measure_186 (by decide) ?_
                    refine lv_iand hx hb dX2_measure_187 ?_
                    obtain ⟨x40, ex40, hF⟩ := ltt_some hF
                    refine lv_topi (fun zx40 ezx40 => ?_)
                    obtain rfl : x40 = zx40 := ex40.trans ezx40.symm
                    refine lv_bipush (v := (8 : Int32)) hx hb dX2_measure_188 (by decide) ?_
                    refine lv_imul hx hb dX2_measure_190 ?_
                    obtain ⟨x41, ex41, hF⟩ := ltt_some hF
                    refine lv_topi (fun zx41 ezx41 => ?_)
                    obtain rfl : x41 = zx41 := ex41.trans ezx41.symm
                    refine lv_iload hx hb dX2_measure_191 (lv_at hl 3 rfl) ?_
                    refine lv_iconst (v := (3 : Int32)) hx hb dX2_measure_193 (by decide) ?_
                    refine lv_ishr hx hb dX2_measure_194 ?_
                    obtain ⟨x42, ex42, hF⟩ := ltt_some hF
                    refine lv_topi (fun zx42 ezx42 => ?_)
                    obtain rfl : x42 = zx42 := ex42.trans ezx42.symm
                    refine lv_iconst (v := (1 : Int32)) hx hb dX2_measure_195 (by decide) ?_
                    refine lv_iand hx hb dX2_measure_196 ?_
                    obtain ⟨x43, ex43, hF⟩ := ltt_some hF
                    refine lv_topi (fun zx43 ezx43 => ?_)
                    obtain rfl : x43 = zx43 := ex43.trans ezx43.symm
                    refine lv_iconst (v := (4 : Int32)) hx hb dX2_measure_197 (by decide) ?_
                    refine lv_imul hx hb dX2_measure_198 ?_
                    obtain ⟨x44, ex44, hF⟩ := ltt_some hF
                    refine lv_topi (fun zx44 ezx44 => ?_)
                    obtain rfl : x44 = zx44 := ex44.trans ezx44.symm
                    refine lv_iadd hx hb dX2_measure_199 ?_
                    obtain ⟨x45, ex45, hF⟩ := ltt_some hF
                    refine lv_topi (fun zx45 ezx45 => ?_)
                    obtain rfl : x45 = zx45 := ex45.trans ezx45.symm
                    refine lv_iload hx hb dX2_measure_200 (lv_at hl 2 rfl) ?_
                    refine lv_iconst (v := (2 : Int32)) hx hb dX2_measure_202 (by decide) ?_
                    refine lv_ishr hx hb dX2_measure_203 ?_
                    obtain ⟨x46, ex46, hF⟩ := ltt_some hF
                    refine lv_topi (fun zx46 ezx46 => ?_)
                    obtain rfl : x46 = zx46 := ex46.trans ezx46.symm
                    refine lv_iconst (v := (1 : Int32)) hx hb dX2_measure_204 (by decide) ?_
                    refine lv_iand hx hb dX2_measure_205 ?_
                    obtain ⟨x47, ex47, hF⟩ := ltt_some hF
                    refine lv_topi (fun zx47 ezx47 => ?_)
                    obtain rfl : x47 = zx47 := ex47.trans ezx47.symm
                    refine lv_iconst (v := (2 : Int32)) hx hb dX2_measure_206 (by decide) ?_
                    refine lv_imul hx hb dX2_measure_207 ?_
                    obtain ⟨x48, ex48, hF⟩ := ltt_some hF
                    refine lv_topi (fun zx48 ezx48 => ?_)
                    obtain rfl : x48 = zx48 := ex48.trans ezx48.symm
                    refine lv_iadd hx hb dX2_measure_208 ?_
                    obtain ⟨x49, ex49, hF⟩ := ltt_some hF
                    refine lv_topi (fun zx49 ezx49 => ?_)
                    obtain rfl : x49 = zx49 := ex49.trans ezx49.symm
                    refine lv_iload hx hb dX2_measure_209 (lv_at hl 3 rfl) ?_
                    refine lv_iconst (v := (2 : Int32)) hx hb dX2_measure_211 (by decide) ?_
                    refine lv_ishr hx hb dX2_measure_212 ?_
                    obtain ⟨x50, ex50, hF⟩ := ltt_some hF
                    refine lv_topi (fun zx50 ezx50 => ?_)
                    obtain rfl : x50 = zx50 := ex50.trans ezx50.symm
                    refine lv_iconst (v := (1 : Int32)) hx hb dX2_measure_213 (by decide) ?_
                    refine lv_iand hx hb dX2_measure_214 ?_
                    obtain ⟨x51, ex51, hF⟩ := ltt_some hF
                    refine lv_topi (fun zx51 ezx51 => ?_)
                    obtain rfl : x51 = zx51 := ex51.trans ezx51.symm
                    refine lv_iadd hx hb dX2_measure_215 ?_
                    obtain ⟨x52, ex52, hF⟩ := ltt_some hF
                    refine lv_topi (fun zx52 ezx52 => ?_)
                    obtain rfl : x52 = zx52 := ex52.trans ezx52.symm
                    refine lv_istore (lv' := [(13, .int x52), (12, .int (0 : Int32)), (11, .int y27), (10, .int x26), (9, .int x23), (8, .int s16.1), (7, .int y14), (6, .int y13), (5, .int s9.1), (4, .int x7), (3, .int x4), (0, .ref (ad a)), (1, va_re ad p0), (2, .int p1)]) hx hb dX2_measure_216 hl (by decide) rfl (fun ls hl => ?_)
                    refine lv_aloadq_n hx hb dX2_measure_218 rfl (lv_at hl 12 rfl) ?_
                    refine lv_bipush (v := (16 : Int32)) hx hb dX2_measure_219 (by decide) ?_
                    refine lv_iload hx hb dX2_measure_221 (lv_at hl 2 rfl) ?_
                    obtain ⟨y53, hy53, hF⟩ := bnd_some hF
                    have J53 : ∀ (H : Heap) (locs : List Loc) (ls : Array Slot), va_P D classes (wld ct ad G y24.1) H → va_D A (wld ct ad G y24.1) → va_S A s.heap H locs → lv_has ls 14 [(13, .int x52), (12, .int (0 : Int32)), (11, .int y27), (10, .int x26), (9, .int x23), (8, .int s16.1), (7, .int y14), (6, .int y13), (5, .int s9.1), (4, .int x7), (3, .int x4), (0, .ref (ad a)), (1, va_re ad p0), (2, .int p1)] → W p l e (headSpec wuX2_measure ({ frames := 3, cells := 0, slots := 0, locals := 78 })).room s m ([.ref (ad a), va_re ad p0, .int p1] : List Value).toArray below meth c H locs 0 0 (MQ below (va_Qv (fun (_ : Unit) => True) (fun _ t => kE D ct ad G A y t) A) ([.ref (ad a), va_re ad p0, .int p1] : List Value).toArray s 0 0 A) (F0 m 232 ls [.int y53, .int (16 : Int32), va_re ad p0]) := by
                      intro H locs ls hP hD hS hl
                      refine lv_imul hx hb dX2_measure_232 ?_
                      obtain ⟨x54, ex54, hF⟩ := ltt_some hF
                      refine lv_topi (fun zx54 ezx54 => ?_)
                      obtain rfl : x54 = zx54 := ex54.trans ezx54.symm
                      refine lv_iload hx hb dX2_measure_233 (lv_at hl 0 rfl) ?_
                      refine lv_iadd hx hb dX2_measure_235 ?_
                      obtain ⟨x55, ex55, hF⟩ := ltt_some hF
                      refine lv_topi (fun zx55 ezx55 => ?_)
                      obtain rfl : x55 = zx55 := ex55.trans ezx55.symm
                      refine lv_bipush (v := (16 : Int32)) hx hb dX2_measure_236 (by decide) ?_
                      refine lv_iload_n hx hb dX2_measure_238 rfl (lv_at hl 13 rfl) ?_
                      refine lv_imul hx hb dX2_measure_239 ?_
                      obtain ⟨x56, ex56, hF⟩ := ltt_some hF
                      refine lv_topi (fun zx56 ezx56 => ?_)
                      obtain rfl : x56 = zx56 := ex56.trans ezx56.symm
                      refine lv_iload hx hb dX2_measure_240 (lv_at hl 5 rfl) ?_
                      refine lv_iadd hx hb dX2_measure_242 ?_
                      obtain ⟨x57, ex57, hF⟩ := ltt_some hF
                      refine lv_topi (fun zx57 ezx57 => ?_)
                      obtain rfl : x57 = zx57 := ex57.trans ezx57.symm
                      obtain ⟨y58, hy58, hF⟩ := bnd_some hF
                      have hf9 := wA_in hD hA9 hS
                      refine va_calli (va_runS (As := [va_re ad p0, .int x55, .int x57]) (rest := []) ⟨hx, hb, hml, hown, hts⟩ (kX2_strengthOf l D ct ad Z G y24.1 H.size p0 x55 x57 y58 hy58) (va_cwS 3 hts gX2_measure_X2_strengthOf rfl rfl rfl (by decide +kernel) ⟨Nat.le_of_ble_eq_true rfl, Nat.le_of_ble_eq_true rfl⟩) ⟨fun a U g mk q => by obtain ⟨q0, q1, qP, qK, qD, qZ, qN⟩ := q; exact ⟨q0, q1, qP, va_K.moved (u := U) (U := U.calling g mk a) (Vm.Alike.refl U.vm) qK, qD, sF.moved (u := U) (U := U.calling g mk a) (Vm.Alike.refl U.vm) qZ, nF.same rfl qN⟩, fun U hU hW => ⟨rfl, by rw [hU], by rw [hU]; exact hP, va_K.moved hW.alike hK, hD.weaken (fun _ _ _ _ => trivial), by rw [hU]; exact ((hZ.kept hS.2.1).narrow hf9).moved hW.alike, hN.warm hW⟩⟩ rfl rfl hl.1 rfl (lv_room (Nat.le_of_ble_eq_true rfl)) dX2_measure_243 ⟨(Nat.zero_le _), (Nat.zero_le _)⟩) hS (fun q _ h => hf9 q h) hf9 (fun r u t H locs ht hvm hw hB hz1 hk1 hS => ?_)
                      obtain ⟨hP, hK9, hD9⟩ := hB
                      rw [ht] at hP
                      try dsimp only at hw
                      subst hw
                      have hD := hD9.weaken (fun _ q _ h => hf9 q.1 h)
                      refine lv_istore (lv' := [(12, .int y58.2), (13, .int x52), (11, .int y27), (10, .int x26), (9, .int x23), (8, .int s16.1), (7, .int y14), (6, .int y13), (5, .int s9.1), (4, .int x7), (3, .int x4), (0, .ref (ad a)), (1, va_re ad p0), (2, .int p1)]) hx hb dX2_measure_246 hl (by decide) rfl (fun ls hl => ?_)
                      obtain rfl := Option.some.inj hF
                      exact J37 _ _ _ hP hD hS (lv_sub hl [0, 2, 3, 4, 5, 6, 7, 8, 9, 10, 11, 12, 13] rfl)
                    clear hF
                    have hF := hy53
                    clear hy53
                    refine lv_if_eq (tgt := 230) hx hb dX2_measure_223 (by decide) (fun c59 => ?_) (fun c59 => ?_)
                    · rw [if_pos c59] at hF
                      refine lv_iload hx hb dX2_measure_230 (lv_at hl 7 rfl) ?_
                      obtain rfl := Option.some.inj hF
                      exact J53 _ _ _ hP hD hS (lv_sub hl [0, 1, 2, 3, 4, 5, 6, 7, 8, 9, 10, 11, 12, 13] rfl)
                    · rw [if_neg c59] at hF
                      refine lv_iload_n hx hb dX2_measure_226 rfl (lv_at hl 13 rfl) ?_
                      refine lv_goto (tgt := 232) hx hb dX2_measure_227 (by decide) ?_
                      obtain rfl := Option.some.inj hF
                      exact J53 _ _ _ hP hD hS (lv_sub hl [0, 1, 2, 3, 4, 5, 6, 7, 8, 9, 10, 11, 12, 13] rfl)
                  · rw [if_pos c38] at hF
                    refine lv_iload hx hb dX2_measure_177 (lv_at hl 5 rfl) ?_
                    obtain ⟨y60, hy60, hF⟩ := bnd_some hF
                    have J60 : ∀ (H : Heap) (locs : List Loc) (ls : Array Slot), va_P D classes (wld ct ad G y60.2) H → va_D A (wld ct ad G y60.2) → va_S A s.heap H locs → lv_has ls 14 [(12, .int y60.1), (11, .int y27), (10, .int x26), (9, .int x23), (8, .int s16.1), (7, .int y14), (6, .int y13), (5, .int s9.1), (4, .int x7), (3, .int x4), (0, .ref (ad a)), (1, va_re ad p0), (2, .int p1)] → W p l e (headSpec wuX2_measure ({ frames := 3, cells := 0, slots := 0, locals := 78 })).room s m ([.ref (ad a), va_re ad p0, .int p1] : List Value).toArray below meth c H locs 0 0 (MQ below (va_Qv (fun (_ : Unit) => True) (fun _ t => kE D ct ad G A y t) A) ([.ref (ad a), va_re ad p0, .int p1] : List Value).toArray s 0 0 A) (F0 m 248 ls []) := by
                      intro H locs ls hP hD hS hl
                      obtain rfl := Option.some.inj hF
                      exact J37 _ _ _ hP hD hS (lv_sub hl [0, 1, 2, 3, 4, 5, 6, 7, 8, 9, 10, 11, 12] rfl)
                    clear hF
                    have hF := hy60
                    clear hy60
                    refine lv_if_eq (tgt := 248) hx hb dX2_measure_179 (by decide) (fun c61 => ?_) (fun c61 => ?_)
                    · rw [if_pos c61] at hF
                      obtain rfl := Option.some.inj hF
                      exact J60 _ _ _ hP hD hS (lv_sub hl [0, 1, 2, 3, 4, 5, 6, 7, 8, 9, 10, 11, 12] rfl)
                    · rw [if_neg c61] at hF
                      refine lv_iload hx hb dX2_measure_182 (lv_at hl 2 rfl) ?_
                      refine lv_iconst (v := (3 : Int32)) hx hb dX2_measure_184 (by decide) ?_
                      refine lv_ishr hx hb dX2_measure_185 ?_
                      obtain ⟨x62, ex62, hF⟩ := ltt_some hF
                      refine lv_topi (fun zx62 ezx62 => ?_)
                      obtain rfl : x62 = zx62 := ex62.trans ezx62.symm
                      refine lv_iconst (v := (1 : Int32)) hx hb dX2_measure_186 (by decide) ?_
                      refine lv_iand hx hb dX2_measure_187 ?_
                      obtain ⟨x63, ex63, hF⟩ := ltt_some hF
                      refine lv_topi (fun zx63 ezx63 => ?_)
                      obtain rfl : x63 = zx63 := ex63.trans ezx63.symm
                      refine lv_bipush (v := (8 : Int32)) hx hb dX2_measure_188 (by decide) ?_
                      refine lv_imul hx hb dX2_measure_190 ?_
                      obtain ⟨x64, ex64, hF⟩ := ltt_some hF
                      refine lv_topi (fun zx64 ezx64 => ?_)
                      obtain rfl : x64 = zx64 := ex64.trans ezx64.symm
                      refine lv_iload hx hb dX2_measure_191 (lv_at hl 3 rfl) ?_
                      refine lv_iconst (v := (3 : Int32)) hx hb dX2_measure_193 (by decide) ?_
                      refine lv_ishr hx hb dX2_measure_194 ?_
                      obtain ⟨x65, ex65, hF⟩ := ltt_some hF
                      refine lv_topi (fun zx65 ezx65 => ?_)
                      obtain rfl : x65 = zx65 := ex65.trans ezx65.symm
                      refine lv_iconst (v := (1 : Int32)) hx hb dX2_measure_195 (by decide) ?_
                      refine lv_iand hx hb dX2_measure_196 ?_
                      obtain ⟨x66, ex66, hF⟩ := ltt_some hF
                      refine lv_topi (fun zx66 ezx66 => ?_)
                      obtain rfl : x66 = zx66 := ex66.trans ezx66.symm
                      refine lv_iconst (v := (4 : Int32)) hx hb dX2_measure_197 (by decide) ?_
                      refine lv_imul hx hb dX2_measure_198 ?_
                      obtain ⟨x67, ex67, hF⟩ := ltt_some hF
                      refine lv_topi (fun zx67 ezx67 => ?_)
                      obtain rfl : x67 = zx67 := ex67.trans ezx67.symm
                      refine lv_iadd hx hb dX2_measure_199 ?_
                      obtain ⟨x68, ex68, hF⟩ := ltt_some hF
                      refine lv_topi (fun zx68 ezx68 => ?_)
                      obtain rfl : x68 = zx68 := ex68.trans ezx68.symm
                      refine lv_iload hx hb dX2_measure_200 (lv_at hl 2 rfl) ?_
                      refine lv_iconst (v := (2 : Int32)) hx hb dX2_measure_202 (by decide) ?_
                      refine lv_ishr hx hb dX2_measure_203 ?_
                      obtain ⟨x69, ex69, hF⟩ := ltt_some hF
                      refine lv_topi (fun zx69 ezx69 => ?_)
                      obtain rfl : x69 = zx69 := ex69.trans ezx69.symm
                      refine lv_iconst (v := (1 : Int32)) hx hb dX2_measure_204 (by decide) ?_
                      refine lv_iand hx hb dX2_measure_205 ?_
                      obtain ⟨x70, ex70, hF⟩ := ltt_some hF
                      refine lv_topi (fun zx70 ezx70 => ?_)
                      obtain rfl : x70 = zx70 := ex70.trans ezx70.symm
                      refine lv_iconst (v := (2 : Int32)) hx hb dX2_measure_206 (by decide) ?_
                      refine lv_imul hx hb dX2_measure_207 ?_
                      obtain ⟨x71, ex71, hF⟩ := ltt_some hF
                      refine lv_topi (fun zx71 ezx71 => ?_)
                      obtain rfl : x71 = zx71 := ex71.trans ezx71.symm
                      refine lv_iadd hx hb dX2_measure_208 ?_
                      obtain ⟨x72, ex72, hF⟩ := ltt_some hF
                      refine lv_topi (fun zx72 ezx72 => ?_)
                      obtain rfl : x72 = zx72 := ex72.trans ezx72.symm
                      refine lv_iload hx hb dX2_measure_209 (lv_at hl 3 rfl) ?_
                      refine lv_iconst (v := (2 : Int32)) hx hb dX2_measure_211 (by decide) ?_
                      refine lv_ishr hx hb dX2_measure_212 ?_
                      obtain ⟨x73, ex73, hF⟩ := ltt_some hF
                      refine lv_topi (fun zx73 ezx73 => ?_)
                      obtain rfl : x73 = zx73 := ex73.trans ezx73.symm
                      refine lv_iconst (v := (1 : Int32)) hx hb dX2_measure_213 (by decide) ?_
                      refine lv_iand hx hb dX2_measure_214 ?_
                      obtain ⟨x74, ex74, hF⟩ := ltt_some hF
                      refine lv_topi (fun zx74 ezx74 => ?_)
                      obtain rfl : x74 = zx74 := ex74.trans ezx74.symm
                      refine lv_iadd hx hb dX2_measure_215 ?_
                      obtain ⟨x75, ex75, hF⟩ := ltt_some hF
                      refine lv_topi (fun zx75 ezx75 => ?_)
                      obtain rfl : x75 = zx75 := ex75.trans ezx75.symm
                      refine lv_istore (lv' := [(13, .int x75), (12, .int (0 : Int32)), (11, .int y27), (10, .int x26), (9, .int x23), (8, .int s16.1), (7, .int y14), (6, .int y13), (5, .int s9.1), (4, .int x7), (3, .int x4), (0, .ref (ad a)), (1, va_re ad p0), (2, .int p1)]) hx hb dX2_measure_216 hl (by decide) rfl (fun ls hl => ?_)
                      refine lv_aloadq_n hx hb dX2_measure_218 rfl (lv_at hl 12 rfl) ?_
                      refine lv_bipush (v := (16 : Int32)) hx hb dX2_measure_219 (by decide) ?_
                      refine lv_iload hx hb dX2_measure_221 (lv_at hl 2 rfl) ?_
                      obtain ⟨y76, hy76, hF⟩ := bnd_some hF
                      have J76 : ∀ (H : Heap) (locs : List Loc) (ls : Array Slot), va_P D classes (wld ct ad G y24.1) H → va_D A (wld ct ad G y24.1) → va_S A s.heap H locs → lv_has ls 14 [(13, .int x75), (12, .int (0 : Int32)), (11, .int y27), (10, .int x26), (9, .int x23), (8, .int s16.1), (7, .int y14), (6, .int y13), (5, .int s9.1), (4, .int x7), (3, .int x4), (0, .ref (ad a)), (1, va_re ad p0), (2, .int p1)] → W p l e (headSpec wuX2_measure ({ frames := 3, cells := 0, slots := 0, locals := 78 })).room s m ([.ref (ad a), va_re ad p0, .int p1] : List Value).toArray below meth c H locs 0 0 (MQ below (va_Qv (fun (_ : Unit) => True) (fun _ t => kE D ct ad G A y t) A) ([.ref (ad a), va_re ad p0, .int p1] : List Value).toArray s 0 0 A) (F0 m 232 ls [.int y76, .int (16 : Int32), va_re ad p0]) := by
                        intro H locs ls hP hD hS hl
                        refine lv_imul hx hb dX2_measure_232 ?_
                        obtain ⟨x77, ex77, hF⟩ := ltt_some hF
                        refine lv_topi (fun zx77 ezx77 => ?_)
                        obtain rfl : x77 = zx77 := ex77.trans ezx77.symm
                        refine lv_iload hx hb dX2_measure_233 (lv_at hl 0 rfl) ?_
                        refine lv_iadd hx hb dX2_measure_235 ?_
                        obtain ⟨x78, ex78, hF⟩ := ltt_some hF
                        refine lv_topi (fun zx78 ezx78 => ?_)
                        obtain rfl : x78 = zx78 := ex78.trans ezx78.symm
                        refine lv_bipush (v := (16 : Int32)) hx hb dX2_measure_236 (by decide) ?_
                        refine lv_iload_n hx hb dX2_measure_238 rfl (lv_at hl 13 rfl) ?_
                        refine lv_imul hx hb dX2_measure_239 ?_
                        obtain ⟨x79, ex79, hF⟩ := ltt_some hF
                        refine lv_topi (fun zx79 ezx79 => ?_)
                        obtain rfl : x79 = zx79 := ex79.trans ezx79.symm
                        refine lv_iload hx hb dX2_measure_240 (lv_at hl 5 rfl) ?_
                        refine lv_iadd hx hb dX2_measure_242 ?_
                        obtain ⟨x80, ex80, hF⟩ := ltt_some hF
                        refine lv_topi (fun zx80 ezx80 => ?_)
                        obtain rfl : x80 = zx80 := ex80.trans ezx80.symm
                        obtain ⟨y81, hy81, hF⟩ := bnd_some hF
                        have hf9 := wA_in hD hA9 hS
                        refine va_calli (va_runS (As := [va_re ad p0, .int x78, .int x80]) (rest := []) ⟨hx, hb, hml, hown, hts⟩ (kX2_strengthOf l D ct ad Z G y24.1 H.size p0 x78 x80 y81 hy81) (va_cwS 3 hts gX2_measure_X2_strengthOf rfl rfl rfl (by decide +kernel) ⟨Nat.le_of_ble_eq_true rfl, Nat.le_of_ble_eq_true rfl⟩) ⟨fun a U g mk q => by obtain ⟨q0, q1, qP, qK, qD, qZ, qN⟩ := q; exact ⟨q0, q1, qP, va_K.moved (u := U) (U := U.calling g mk a) (Vm.Alike.refl U.vm) qK, qD, sF.moved (u := U) (U := U.calling g mk a) (Vm.Alike.refl U.vm) qZ, nF.same rfl qN⟩, fun U hU hW => ⟨rfl, by rw [hU], by rw [hU]; exact hP, va_K.moved hW.alike hK, hD.weaken (fun _ _ _ _ => trivial), by rw [hU]; exact ((hZ.kept hS.2.1).narrow hf9).moved hW.alike, hN.warm hW⟩⟩ rfl rfl hl.1 rfl (lv_room (Nat.le_of_ble_eq_true rfl)) dX2_measure_243 ⟨(Nat.zero_le _), (Nat.zero_le _)⟩) hS (fun q _ h => hf9 q h) hf9 (fun r u t H locs ht hvm hw hB hz1 hk1 hS => ?_)
                        obtain ⟨hP, hK9, hD9⟩ := hB
                        rw [ht] at hP
                        try dsimp only at hw
                        subst hw
                        have hD := hD9.weaken (fun _ q _ h => hf9 q.1 h)
                        refine lv_istore (lv' := [(12, .int y81.2), (13, .int x75), (11, .int y27), (10, .int x26), (9, .int x23), (8, .int s16.1), (7, .int y14), (6, .int y13), (5, .int s9.1), (4, .int x7), (3, .int x4), (0, .ref (ad a)), (1, va_re ad p0), (2, .int p1)]) hx hb dX2_measure_246 hl (by decide) rfl (fun ls hl => ?_)
                        obtain rfl := Option.some.inj hF
                        exact J60 _ _ _ hP hD hS (lv_sub hl [0, 2, 3, 4, 5, 6, 7, 8, 9, 10, 11, 12, 13] rfl)
                      clear hF
                      have hF := hy76
                      clear hy76
                      refine lv_if_eq (tgt := 230) hx hb dX2_measure_223 (by decide) (fun c82 => ?_) (fun c82 => ?_)
                      · rw [if_pos c82] at hF
                        refine lv_iload hx hb dX2_measure_230 (lv_at hl 7 rfl) ?_
                        obtain rfl := Option.some.inj hF
                        exact J76 _ _ _ hP hD hS (lv_sub hl [0, 1, 2, 3, 4, 5, 6, 7, 8, 9, 10, 11, 12, 13] rfl)
                      · rw [if_neg c82] at hF
                        refine lv_iload_n hx hb dX2_measure_226 rfl (lv_at hl 13 rfl) ?_
                        refine lv_goto (tgt := 232) hx hb dX2_measure_227 (by decide) ?_
                        obtain rfl := Option.some.inj hF
                        exact J76 _ _ _ hP hD hS (lv_sub hl [0, 1, 2, 3, 4, 5, 6, 7, 8, 9, 10, 11, 12, 13] rfl)
              clear hF
              have hF := hy27
              clear hy27
              refine lv_if_lt (tgt := 160) hx hb dX2_measure_148 (by decide) (fun c83 => ?_) (fun c83 => ?_)
              · rw [if_pos c83] at hF
                refine lv_iconst (v := (0 : Int32)) hx hb dX2_measure_160 (by decide) ?_
                obtain rfl := Option.some.inj hF
                exact J27 _ _ _ hP hD hS (lv_sub hl [0, 1, 2, 3, 4, 5, 6, 7, 8, 9, 10] rfl)
              · rw [if_neg c83] at hF
                refine lv_iload hx hb dX2_measure_151 (lv_at hl 0 rfl) ?_
                obtain ⟨y84, hy84, hF⟩ := bnd_some hF
                have J84 : ∀ (H : Heap) (locs : List Loc) (ls : Array Slot), va_P D classes (wld ct ad G y24.1) H → va_D A (wld ct ad G y24.1) → va_S A s.heap H locs → lv_has ls 14 [(10, .int x26), (9, .int x23), (8, .int s16.1), (7, .int y14), (6, .int y13), (5, .int s9.1), (4, .int x7), (3, .int x4), (0, .ref (ad a)), (1, va_re ad p0), (2, .int p1)] → W p l e (headSpec wuX2_measure ({ frames := 3, cells := 0, slots := 0, locals := 78 })).room s m ([.ref (ad a), va_re ad p0, .int p1] : List Value).toArray below meth c H locs 0 0 (MQ below (va_Qv (fun (_ : Unit) => True) (fun _ t => kE D ct ad G A y t) A) ([.ref (ad a), va_re ad p0, .int p1] : List Value).toArray s 0 0 A) (F0 m 161 ls [.int y84]) := by
                  intro H locs ls hP hD hS hl
                  obtain rfl := Option.some.inj hF
                  exact J27 _ _ _ hP hD hS (lv_sub hl [0, 1, 2, 3, 4, 5, 6, 7, 8, 9, 10] rfl)
                clear hF
                have hF := hy84
                clear hy84
                refine lv_if_lt (tgt := 160) hx hb dX2_measure_153 (by decide) (fun c85 => ?_) (fun c85 => ?_)
                · rw [if_pos c85] at hF
                  refine lv_iconst (v := (0 : Int32)) hx hb dX2_measure_160 (by decide) ?_
                  obtain rfl := Option.some.inj hF
                  exact J84 _ _ _ hP hD hS (lv_sub hl [0, 1, 2, 3, 4, 5, 6, 7, 8, 9, 10] rfl)
                · rw [if_neg c85] at hF
                  refine lv_iconst (v := (1 : Int32)) hx hb dX2_measure_156 (by decide) ?_
                  refine lv_goto (tgt := 161) hx hb dX2_measure_157 (by decide) ?_
                  obtain rfl := Option.some.inj hF
                  exact J84 _ _ _ hP hD hS (lv_sub hl [0, 1, 2, 3, 4, 5, 6, 7, 8, 9, 10] rfl)
            clear hF
            have hF := hy25
            clear hy25
            refine lv_icmp_ne (tgt := 142) hx hb dX2_measure_135 (by decide) (fun c86 => ?_) (fun c86 => ?_)
            · rw [if_neg c86] at hF
              refine lv_iconst (v := (0 : Int32)) hx hb dX2_measure_142 (by decide) ?_
              obtain rfl := Option.some.inj hF
              exact J25 _ _ _ hP hD hS (lv_sub hl [0, 1, 2, 3, 4, 5, 6, 7, 8, 9] rfl)
            · rw [if_pos c86] at hF
              refine lv_iconst (v := (4 : Int32)) hx hb dX2_measure_138 (by decide) ?_
              refine lv_goto (tgt := 143) hx hb dX2_measure_139 (by decide) ?_
              obtain rfl := Option.some.inj hF
              exact J25 _ _ _ hP hD hS (lv_sub hl [0, 1, 2, 3, 4, 5, 6, 7, 8, 9] rfl)
          clear hF
          have hF := hy22
          clear hy22
          refine lv_if_ne (tgt := 123) hx hb dX2_measure_116 (by decide) (fun c87 => ?_) (fun c87 => ?_)
          · rw [if_neg c87] at hF
            refine lv_iconst (v := (0 : Int32)) hx hb dX2_measure_123 (by decide) ?_
            obtain rfl := Option.some.inj hF
            exact J22 _ _ _ hP hD hS (lv_sub hl [0, 1, 2, 3, 4, 5, 6, 7, 8] rfl)
          · rw [if_pos c87] at hF
            refine lv_iconst (v := (4 : Int32)) hx hb dX2_measure_119 (by decide) ?_
            refine lv_goto (tgt := 124) hx hb dX2_measure_120 (by decide) ?_
            obtain rfl := Option.some.inj hF
            exact J22 _ _ _ hP hD hS (lv_sub hl [0, 1, 2, 3, 4, 5, 6, 7, 8] rfl)
      clear hF
      have hF := hy14
      clear hy14
      refine lv_if_lt (tgt := 96) hx hb dX2_measure_55 (by decide) (fun c88 => ?_) (fun c88 => ?_)
      · rw [if_pos c88] at hF
        refine lv_iconst (v := (0 : Int32)) hx hb dX2_measure_96 (by decide) ?_
        obtain rfl := Option.some.inj hF
        exact J14 _ _ _ hP hD hS (lv_sub hl [0, 1, 2, 3, 4, 5, 6] rfl)
      · rw [if_neg c88] at hF
        refine lv_iload hx hb dX2_measure_58 (lv_at hl 2 rfl) ?_
        refine lv_iconst (v := (2 : Int32)) hx hb dX2_measure_60 (by decide) ?_
        obtain ⟨y89, hy89, hF⟩ := bnd_some hF
        have J89 : ∀ (H : Heap) (locs : List Loc) (ls : Array Slot), va_P D classes (wld ct ad G s9.2) H → va_D A (wld ct ad G s9.2) → va_S A s.heap H locs → lv_has ls 14 [(6, .int y13), (5, .int s9.1), (4, .int x7), (3, .int x4), (0, .ref (ad a)), (1, va_re ad p0), (2, .int p1)] → W p l e (headSpec wuX2_measure ({ frames := 3, cells := 0, slots := 0, locals := 78 })).room s m ([.ref (ad a), va_re ad p0, .int p1] : List Value).toArray below meth c H locs 0 0 (MQ below (va_Qv (fun (_ : Unit) => True) (fun _ t => kE D ct ad G A y t) A) ([.ref (ad a), va_re ad p0, .int p1] : List Value).toArray s 0 0 A) (F0 m 97 ls [.int y89]) := by
          intro H locs ls hP hD hS hl
          obtain rfl := Option.some.inj hF
          exact J14 _ _ _ hP hD hS (lv_sub hl [0, 1, 2, 3, 4, 5, 6] rfl)
        clear hF
        have hF := hy89
        clear hy89
        refine lv_icmp_ne (tgt := 92) hx hb dX2_measure_61 (by decide) (fun c90 => ?_) (fun c90 => ?_)
        · rw [if_neg c90] at hF
          refine lv_iconst (v := (1 : Int32)) hx hb dX2_measure_92 (by decide) ?_
          refine lv_goto (tgt := 97) hx hb dX2_measure_93 (by decide) ?_
          obtain rfl := Option.some.inj hF
          exact J89 _ _ _ hP hD hS (lv_sub hl [0, 1, 2, 3, 4, 5, 6] rfl)
        · rw [if_pos c90] at hF
          refine lv_aloadq_n hx hb dX2_measure_64 rfl (lv_at hl 5 rfl) ?_
          refine W_st (st' := [.ref (ad b2)]) (by rw [va_some ho2]) ?_
          refine va_get (D := D) (ci := 9) (v := va_re ad (s9.2.2 b2 6)) (C := RX9) (T := TX9) (N := 20) hx hb hts (mus hf_X9) hown hK hP b2 (wld_o ct ad G s9.2 hc2 hk2 (by decide)) rfl 6 (by decide) (hts (.fieldLink RX2 27 "VideoSuite$Work" "info" "[I") (mu mw_443)) (fun _ h9 => h9) rfl dX2_measure_65 ?_
          refine lv_bipush (v := (8 : Int32)) hx hb dX2_measure_68 (by decide) ?_
          refine lv_iload_n hx hb dX2_measure_70 rfl (lv_at hl 6 rfl) ?_
          refine lv_imul hx hb dX2_measure_71 ?_
          obtain ⟨x91, ex91, hF⟩ := ltt_some hF
          refine lv_topi (fun zx91 ezx91 => ?_)
          obtain rfl : x91 = zx91 := ex91.trans ezx91.symm
          refine lv_bipush (v := (6 : Int32)) hx hb dX2_measure_72 (by decide) ?_
          refine lv_iadd hx hb dX2_measure_74 ?_
          obtain ⟨x92, ex92, hF⟩ := ltt_some hF
          refine lv_topi (fun zx92 ezx92 => ?_)
          obtain rfl : x92 = zx92 := ex92.trans ezx92.symm
          obtain ⟨b93, ho93, hc93, hk93, hF⟩ := dr_some hF
          refine W_st (st' := [.int x92, .ref (ad b93)]) (by rw [va_some ho93]) ?_
          obtain ⟨hvc, hF⟩ := chk_some hF
          refine va_iald hx hb hK hP b93 1 (wld_i ct ad G s9.2 hc93 hk93) rfl hvc dX2_measure_75 ?_
          obtain ⟨x94, ex94, hF⟩ := ltt_some hF
          refine lv_topi (fun zx94 ezx94 => ?_)
          obtain rfl : x94 = zx94 := ex94.trans ezx94.symm
          refine lv_aloadq_n hx hb dX2_measure_76 rfl (lv_at hl 5 rfl) ?_
          refine W_st (st' := [.ref (ad b2), .int x94]) (by rw [va_some ho2]) ?_
          refine va_get (D := D) (ci := 9) (v := va_re ad (s9.2.2 b2 6)) (C := RX9) (T := TX9) (N := 20) hx hb hts (mus hf_X9) hown hK hP b2 (wld_o ct ad G s9.2 hc2 hk2 (by decide)) rfl 6 (by decide) (hts (.fieldLink RX2 27 "VideoSuite$Work" "info" "[I") (mu mw_443)) (fun _ h9 => h9) rfl dX2_measure_77 ?_
          refine lv_bipush (v := (8 : Int32)) hx hb dX2_measure_80 (by decide) ?_
          refine lv_iload hx hb dX2_measure_82 (lv_at hl 0 rfl) ?_
          refine lv_imul hx hb dX2_measure_84 ?_
          obtain ⟨x95, ex95, hF⟩ := ltt_some hF
          refine lv_topi (fun zx95 ezx95 => ?_)
          obtain rfl : x95 = zx95 := ex95.trans ezx95.symm
          refine lv_bipush (v := (6 : Int32)) hx hb dX2_measure_85 (by decide) ?_
          refine lv_iadd hx hb dX2_measure_87 ?_
          obtain ⟨x96, ex96, hF⟩ := ltt_some hF
          refine lv_topi (fun zx96 ezx96 => ?_)
          obtain rfl : x96 = zx96 := ex96.trans ezx96.symm
          refine W_st (st' := [.int x96, .ref (ad b93), .int x94]) (by rw [va_some ho93]) ?_
          obtain ⟨hvc, hF⟩ := chk_some hF
          refine va_iald hx hb hK hP b93 1 (wld_i ct ad G s9.2 hc93 hk93) rfl hvc dX2_measure_88 ?_
          obtain ⟨x97, ex97, hF⟩ := ltt_some hF
          refine lv_topi (fun zx97 ezx97 => ?_)
          obtain rfl : x97 = zx97 := ex97.trans ezx97.symm
          obtain ⟨y98, hy98, hF⟩ := bnd_some hF
          have J98 : ∀ (H : Heap) (locs : List Loc) (ls : Array Slot), va_P D classes (wld ct ad G s9.2) H → va_D A (wld ct ad G s9.2) → va_S A s.heap H locs → lv_has ls 14 [(6, .int y13), (5, .int s9.1), (4, .int x7), (3, .int x4), (0, .ref (ad a)), (1, va_re ad p0), (2, .int p1)] → W p l e (headSpec wuX2_measure ({ frames := 3, cells := 0, slots := 0, locals := 78 })).room s m ([.ref (ad a), va_re ad p0, .int p1] : List Value).toArray below meth c H locs 0 0 (MQ below (va_Qv (fun (_ : Unit) => True) (fun _ t => kE D ct ad G A y t) A) ([.ref (ad a), va_re ad p0, .int p1] : List Value).toArray s 0 0 A) (F0 m 97 ls [.int y98]) := by
            intro H locs ls hP hD hS hl
            obtain rfl := Option.some.inj hF
            exact J89 _ _ _ hP hD hS (lv_sub hl [0, 1, 2, 3, 4, 5, 6] rfl)
          clear hF
          have hF := hy98
          clear hy98
          refine lv_icmp_ne (tgt := 96) hx hb dX2_measure_89 (by decide) (fun c99 => ?_) (fun c99 => ?_)
          · rw [if_neg c99] at hF
            refine lv_iconst (v := (0 : Int32)) hx hb dX2_measure_96 (by decide) ?_
            obtain rfl := Option.some.inj hF
            exact J98 _ _ _ hP hD hS (lv_sub hl [0, 1, 2, 3, 4, 5, 6] rfl)
          · rw [if_pos c99] at hF
            refine lv_iconst (v := (1 : Int32)) hx hb dX2_measure_92 (by decide) ?_
            refine lv_goto (tgt := 97) hx hb dX2_measure_93 (by decide) ?_
            obtain rfl := Option.some.inj hF
            exact J98 _ _ _ hP hD hS (lv_sub hl [0, 1, 2, 3, 4, 5, 6] rfl)
    clear hF
    have hF := hy13
    clear hy13
    refine lv_if_ne (tgt := 48) hx hb dX2_measure_29 (by decide) (fun c100 => ?_) (fun c100 => ?_)
    · rw [if_neg c100] at hF
      refine lv_iload_n hx hb dX2_measure_48 rfl (lv_at hl 5 rfl) ?_
      refine lv_iload_n hx hb dX2_measure_49 rfl (lv_at hl 2 rfl) ?_
      refine lv_isub hx hb dX2_measure_50 ?_
      obtain ⟨x101, ex101, hF⟩ := ltt_some hF
      refine lv_topi (fun zx101 ezx101 => ?_)
      obtain rfl : x101 = zx101 := ex101.trans ezx101.symm
      obtain rfl := Option.some.inj hF
      exact J13 _ _ _ hP hD hS (lv_sub hl [0, 1, 2, 3, 4, 5] rfl)
    · rw [if_pos c100] at hF
      refine lv_iload_n hx hb dX2_measure_32 rfl (lv_at hl 5 rfl) ?_
      refine lv_iload_n hx hb dX2_measure_33 rfl (lv_at hl 2 rfl) ?_
      obtain ⟨hne, hF⟩ := chk_some hF
      refine lv_irem hx hb dX2_measure_34 hne ?_
      obtain ⟨x102, ex102, hF⟩ := ltt_some hF
      refine lv_topi (fun zx102 ezx102 => ?_)
      obtain rfl : x102 = zx102 := ex102.trans ezx102.symm
      obtain ⟨y103, hy103, hF⟩ := bnd_some hF
      have J103 : ∀ (H : Heap) (locs : List Loc) (ls : Array Slot), va_P D classes (wld ct ad G s9.2) H → va_D A (wld ct ad G s9.2) → va_S A s.heap H locs → lv_has ls 14 [(5, .int s9.1), (4, .int x7), (3, .int x4), (0, .ref (ad a)), (1, va_re ad p0), (2, .int p1)] → W p l e (headSpec wuX2_measure ({ frames := 3, cells := 0, slots := 0, locals := 78 })).room s m ([.ref (ad a), va_re ad p0, .int p1] : List Value).toArray below meth c H locs 0 0 (MQ below (va_Qv (fun (_ : Unit) => True) (fun _ t => kE D ct ad G A y t) A) ([.ref (ad a), va_re ad p0, .int p1] : List Value).toArray s 0 0 A) (F0 m 51 ls [.int y103]) := by
        intro H locs ls hP hD hS hl
        obtain rfl := Option.some.inj hF
        exact J13 _ _ _ hP hD hS (lv_sub hl [0, 1, 2, 3, 4, 5] rfl)
      clear hF
      have hF := hy103
      clear hy103
      refine lv_if_le (tgt := 44) hx hb dX2_measure_35 (by decide) (fun c104 => ?_) (fun c104 => ?_)
      · rw [if_pos c104] at hF
        refine lv_iconst (v := (-1 : Int32)) hx hb dX2_measure_44 (by decide) ?_
        refine lv_goto (tgt := 51) hx hb dX2_measure_45 (by decide) ?_
        obtain rfl := Option.some.inj hF
        exact J103 _ _ _ hP hD hS (lv_sub hl [0, 1, 2, 3, 4, 5] rfl)
      · rw [if_neg c104] at hF
        refine lv_iload_n hx hb dX2_measure_38 rfl (lv_at hl 5 rfl) ?_
        refine lv_iconst (v := (1 : Int32)) hx hb dX2_measure_39 (by decide) ?_
        refine lv_isub hx hb dX2_measure_40 ?_
        obtain ⟨x105, ex105, hF⟩ := ltt_some hF
        refine lv_topi (fun zx105 ezx105 => ?_)
        obtain rfl : x105 = zx105 := ex105.trans ezx105.symm
        refine lv_goto (tgt := 51) hx hb dX2_measure_41 (by decide) ?_
        obtain rfl := Option.some.inj hF
        exact J103 _ _ _ hP hD hS (lv_sub hl [0, 1, 2, 3, 4, 5] rfl)
set_option maxRecDepth 20000 in
theorem gX5_expect_X5_fixed : GoodIn wuX5_expect (wsV RX5 130 RX5 yX5_fixed wuX5_fixed) := gu_V mw_2214 mw_1356 mw_1357 mw_169 mw_1358
set_option maxRecDepth 20000 in
theorem dX5_expect_0 : decode cX5_expect 0 = .ok (.aload_n 0, 1) := by decide +kernel
theorem dX5_expect_1 : decode cX5_expect 1 = .ok (.iconst 0, 1) := by decide +kernel
theorem dX5_expect_2 : decode cX5_expect 2 = .ok (.iconst 1, 1) := by decide +kernel
theorem dX5_expect_3 : decode cX5_expect 3 = .ok (.invokevirtual 130, 3) := by decide +kernel
theorem dX5_expect_6 : decode cX5_expect 6 = .ok (.iload_n 1, 1) := by decide +kernel
theorem dX5_expect_7 : decode cX5_expect 7 = .ok (.if_icmp .eq 12, 3) := by decide +kernel
theorem dX5_expect_10 : decode cX5_expect 10 = .ok (.aload_n 0, 1) := by decide +kernel
theorem dX5_expect_11 : decode cX5_expect 11 = .ok (.iconst 2, 1) := by decide +kernel
theorem dX5_expect_12 : decode cX5_expect 12 = .ok (.aload_n 0, 1) := by decide +kernel
theorem dX5_expect_13 : decode cX5_expect 13 = .ok (.getfield 60, 3) := by decide +kernel
theorem dX5_expect_16 : decode cX5_expect 16 = .ok (.invokevirtual 89, 3) := by decide +kernel
theorem dX5_expect_19 : decode cX5_expect 19 = .ok (.return_, 1) := by decide +kernel
def FX5_expect (G : GG) (M : DD) (a : Nat) (p0 : Int32) : Option (DD) :=
  bnd (FX5_fixed G M a ((0 : Int32)) ((1 : Int32))) fun y1 =>
  bnd (if y1.2 = p0 then (some (y1.1)) else
  (ltt (y1.1.1 a 4) fun x4 =>
  none)) fun (y2 : DD) =>
  some y2
set_option maxHeartbeats 4000000 in
set_option maxRecDepth 100000 in
theorem kX5_expect (l : Launch) (D : va_G) (ct : CT) (ad : Nat → Nat) (Z : Nat → Nat) (G : GG) (M : DD) (sz : Nat) (a : Nat) (p0 : Int32) (y : DD) (hc : a < G.1) (hk : G.2.1 a = 5) (hF : FX5_expect G M a p0 = some y) : Met l yX5_expect wuX5_expect ({ frames := 2, cells := 0, slots := 0, locals := 51 }) (va_Pc [.ref (ad a), .int p0] (kB D ct ad Z G M sz)) (va_Qv (fun (_ : Unit) => True) (fun _ t => kE D ct ad G (wA ad G sz) y t) (wA ad G sz)) 0 0 (wA ad G sz) := by
  refine Met.ofW (cc := cX5_expect) (maxL := 2) (ret := none) (by decide) rfl ?_
  intro p e s m args below meth c s₁ B hml hv
  obtain ⟨rfl, hsz, hP, hK, hD0, hZ, hN⟩ := hv
  have hx := B.exec
  have hb := B.bytes
  have hr := B.returns
  have hts := atoms_spec (ws := wuX5_expect) B.pre
  have hown : s.vm.findClass RX5 = some m.cls := findClass_of_methodNamed B.named
  have hlocks := B.notSynchronized
  subst hsz
  have hD := wD_self (sz := s.heap.size) hD0
  have hA9 : ∀ q, s.heap.size ≤ q → wA ad G s.heap.size q := fun q h => Or.inr h
  generalize hAe : wA ad G s.heap.size = A at hD hA9 hZ ⊢
  have hS : va_S A s.heap s.heap [] := va_S.rf
  have hl := lv_entry ([.ref (ad a), .int p0]) (n := 2) (Nat.le_of_ble_eq_true rfl)
  rw [lg_entry_eq]
  generalize (lg_sl ([.ref (ad a), .int p0]) ++ List.replicate (2 - (lg_sl ([.ref (ad a), .int p0])).length) Slot.unset).toArray = ls at hl ⊢
  have hl : lv_has ls 2 [(0, .ref (ad a)), (1, .int p0)] := hl
  unfold FX5_expect at hF
  refine lv_aload_n hx hb dX5_expect_0 rfl (lv_at hl 0 rfl) ?_
  refine lv_iconst (v := (0 : Int32)) hx hb dX5_expect_1 (by decide) ?_
  refine lv_iconst (v := (1 : Int32)) hx hb dX5_expect_2 (by decide) ?_
  obtain ⟨y1, hy1, hF⟩ := bnd_some hF
  have hf9 := wA_in hD hA9 hS
  refine va_calli (va_runV (As := [.int (0 : Int32), .int (1 : Int32)]) (rest := []) ⟨hx, hb, hml, hown, hts⟩ (kX5_fixed l D ct ad Z G M s.heap.size a ((0 : Int32)) ((1 : Int32)) y1 hc hk hy1) (cwV 2 hts gX5_expect_X5_fixed rfl rfl rfl (by decide +kernel) ⟨Nat.le_of_ble_eq_true rfl, Nat.le_of_ble_eq_true rfl⟩) ⟨fun a U g mk q => by obtain ⟨q0, q1, qP, qK, qD, qZ, qN⟩ := q; exact ⟨q0, q1, qP, va_K.moved (u := U) (U := U.calling g mk a) (Vm.Alike.refl U.vm) qK, qD, sF.moved (u := U) (U := U.calling g mk a) (Vm.Alike.refl U.vm) qZ, nF.same rfl qN⟩, va_recv hK hP (ci := 5) (q0 := a) rfl (wld_o ct ad G M hc hk (by decide)), fun U hU hW => ⟨rfl, by rw [hU], by rw [hU]; exact hP, va_K.moved hW.alike hK, hD.weaken (fun _ _ _ _ => trivial), by rw [hU]; exact ((hZ.kept hS.2.1).narrow hf9).moved hW.alike, hN.warm hW⟩⟩ rfl rfl hl.1 rfl (lv_room (Nat.le_of_ble_eq_true rfl)) dX5_expect_3 ⟨(Nat.zero_le _), (Nat.zero_le _)⟩) hS (fun q _ h => hf9 q h) hf9 (fun r u t H locs ht hvm hw hB hz1 hk1 hS => ?_)
  obtain ⟨hP, hK9, hD9⟩ := hB
  rw [ht] at hP
  try dsimp only at hw
  subst hw
  have hD := hD9.weaken (fun _ q _ h => hf9 q.1 h)
  refine lv_iload_n hx hb dX5_expect_6 rfl (lv_at hl 1 rfl) ?_
  obtain ⟨y2, hy2, hF⟩ := bnd_some hF
  have J2 : ∀ (H : Heap) (locs : List Loc) (ls : Array Slot), va_P D classes (wld ct ad G y2) H → va_D A (wld ct ad G y2) → va_S A s.heap H locs → lv_has ls 2 [(0, .ref (ad a)), (1, .int p0)] → W p l e (headSpec wuX5_expect ({ frames := 2, cells := 0, slots := 0, locals := 51 })).room s m ([.ref (ad a), .int p0] : List Value).toArray below meth c H locs 0 0 (MQ below (va_Qv (fun (_ : Unit) => True) (fun _ t => kE D ct ad G A y t) A) ([.ref (ad a), .int p0] : List Value).toArray s 0 0 A) (F0 m 19 ls []) := by
    intro H locs ls hP hD hS hl
    obtain rfl := Option.some.inj hF
    exact W.vret hx hb hr (fun t ht hW => ⟨⟨(), rfl, trivial, ⟨by rw [ht]; exact hP, va_K.moved hW.alike hK, hD⟩⟩, hS.F ht⟩) hS.2.2 dX5_expect_19
  clear hF
  have hF := hy2
  clear hy2
  refine lv_icmp_eq (tgt := 19) hx hb dX5_expect_7 (by decide) (fun c3 => ?_) (fun c3 => ?_)
  · rw [if_pos c3] at hF
    obtain rfl := Option.some.inj hF
    exact J2 _ _ _ hP hD hS (lv_sub hl [0, 1] rfl)
  · rw [if_neg c3] at hF
    refine lv_aload_n hx hb dX5_expect_10 rfl (lv_at hl 0 rfl) ?_
    refine lv_iconst (v := (2 : Int32)) hx hb dX5_expect_11 (by decide) ?_
    refine lv_aload_n hx hb dX5_expect_12 rfl (lv_at hl 0 rfl) ?_
    refine va_get (D := D) (ci := 5) (v := .int (y1.1.1 a 4)) (C := RX5) (T := TX5) (N := 17) hx hb hts (mus hf_X5) hown hK hP a (wld_o ct ad G y1.1 hc hk (by decide)) rfl 4 (by decide) (hts (.fieldLink RX5 60 "VideoSuite$Reader" "begin" "I") (mu mw_292)) (fun _ h9 => h9) rfl dX5_expect_13 ?_
    obtain ⟨x4, ex4, hF⟩ := ltt_some hF
    refine lv_topi (fun zx4 ezx4 => ?_)
    obtain rfl : x4 = zx4 := ex4.trans ezx4.symm
    cases hF
set_option maxRecDepth 20000 in
theorem gX5_levels_X5_spread : GoodIn wuX5_levels (wsV RX5 155 RX5 yX5_spread wuX5_spread) := gu_V mw_2264 mw_2266 mw_106 mw_169 mw_2267
set_option maxRecDepth 20000 in
theorem gX5_levels_X5_oneLevel : GoodIn wuX5_levels (wsV RX5 145 RX5 yX5_oneLevel wuX5_oneLevel) := gu_V mw_2259 mw_2261 mw_105 mw_169 mw_2262
set_option maxRecDepth 20000 in
set_option maxRecDepth 20000 in
theorem gX5_levels_X5_fixed : GoodIn wuX5_levels (wsV RX5 130 RX5 yX5_fixed wuX5_fixed) := gu_V mw_2214 mw_1356 mw_1357 mw_169 mw_1358
set_option maxRecDepth 20000 in
set_option maxRecDepth 20000 in
theorem gX5_levels_X5_code : GoodIn wuX5_levels (wsV RX5 142 RX5 yX5_code wuX5_code) := gu_V mw_2255 mw_2257 mw_104 mw_169 mw_2258
set_option maxRecDepth 20000 in
theorem dX5_levels_0 : decode cX5_levels 0 = .ok (.iload_n 1, 1) := by decide +kernel
theorem dX5_levels_1 : decode cX5_levels 1 = .ok (.iconst 3, 1) := by decide +kernel
theorem dX5_levels_2 : decode cX5_levels 2 = .ok (.if_icmp .ne 32, 3) := by decide +kernel
theorem dX5_levels_5 : decode cX5_levels 5 = .ok (.aload_n 0, 1) := by decide +kernel
theorem dX5_levels_6 : decode cX5_levels 6 = .ok (.bipush 11, 2) := by decide +kernel
theorem dX5_levels_8 : decode cX5_levels 8 = .ok (.bipush 6, 2) := by decide +kernel
theorem dX5_levels_10 : decode cX5_levels 10 = .ok (.invokevirtual 130, 3) := by decide +kernel
theorem dX5_levels_13 : decode cX5_levels 13 = .ok (.istore 6, 2) := by decide +kernel
theorem dX5_levels_15 : decode cX5_levels 15 = .ok (.iload 6, 2) := by decide +kernel
theorem dX5_levels_17 : decode cX5_levels 17 = .ok (.iconst 3, 1) := by decide +kernel
theorem dX5_levels_18 : decode cX5_levels 18 = .ok (.if_icmp .ne 7, 3) := by decide +kernel
theorem dX5_levels_21 : decode cX5_levels 21 = .ok (.iconst 0, 1) := by decide +kernel
theorem dX5_levels_22 : decode cX5_levels 22 = .ok (.goto 7, 3) := by decide +kernel
theorem dX5_levels_25 : decode cX5_levels 25 = .ok (.iload 6, 2) := by decide +kernel
theorem dX5_levels_27 : decode cX5_levels 27 = .ok (.iconst 4, 1) := by decide +kernel
theorem dX5_levels_28 : decode cX5_levels 28 = .ok (.iadd, 1) := by decide +kernel
theorem dX5_levels_29 : decode cX5_levels 29 = .ok (.istore 5, 2) := by decide +kernel
theorem dX5_levels_31 : decode cX5_levels 31 = .ok (.goto 21, 3) := by decide +kernel
theorem dX5_levels_34 : decode cX5_levels 34 = .ok (.aload_n 0, 1) := by decide +kernel
theorem dX5_levels_35 : decode cX5_levels 35 = .ok (.bipush 11, 2) := by decide +kernel
theorem dX5_levels_37 : decode cX5_levels 37 = .ok (.iload_n 1, 1) := by decide +kernel
theorem dX5_levels_38 : decode cX5_levels 38 = .ok (.iconst 4, 1) := by decide +kernel
theorem dX5_levels_39 : decode cX5_levels 39 = .ok (.if_icmp .ne 7, 3) := by decide +kernel
theorem dX5_levels_42 : decode cX5_levels 42 = .ok (.iconst 3, 1) := by decide +kernel
theorem dX5_levels_43 : decode cX5_levels 43 = .ok (.goto 4, 3) := by decide +kernel
theorem dX5_levels_46 : decode cX5_levels 46 = .ok (.iload_n 1, 1) := by decide +kernel
theorem dX5_levels_47 : decode cX5_levels 47 = .ok (.invokevirtual 142, 3) := by decide +kernel
theorem dX5_levels_50 : decode cX5_levels 50 = .ok (.istore 5, 2) := by decide +kernel
theorem dX5_levels_52 : decode cX5_levels 52 = .ok (.iload 5, 2) := by decide +kernel
theorem dX5_levels_54 : decode cX5_levels 54 = .ok (.iconst 2, 1) := by decide +kernel
theorem dX5_levels_55 : decode cX5_levels 55 = .ok (.ishr, 1) := by decide +kernel
theorem dX5_levels_56 : decode cX5_levels 56 = .ok (.istore 6, 2) := by decide +kernel
theorem dX5_levels_58 : decode cX5_levels 58 = .ok (.iload 5, 2) := by decide +kernel
theorem dX5_levels_60 : decode cX5_levels 60 = .ok (.iconst 3, 1) := by decide +kernel
theorem dX5_levels_61 : decode cX5_levels 61 = .ok (.iand, 1) := by decide +kernel
theorem dX5_levels_62 : decode cX5_levels 62 = .ok (.istore 7, 2) := by decide +kernel
theorem dX5_levels_64 : decode cX5_levels 64 = .ok (.iload 7, 2) := by decide +kernel
theorem dX5_levels_66 : decode cX5_levels 66 = .ok (.iload 6, 2) := by decide +kernel
theorem dX5_levels_68 : decode cX5_levels 68 = .ok (.if_icmp .gt 9, 3) := by decide +kernel
theorem dX5_levels_71 : decode cX5_levels 71 = .ok (.iload 6, 2) := by decide +kernel
theorem dX5_levels_73 : decode cX5_levels 73 = .ok (.iload_n 2, 1) := by decide +kernel
theorem dX5_levels_74 : decode cX5_levels 74 = .ok (.if_icmp .le 8, 3) := by decide +kernel
theorem dX5_levels_77 : decode cX5_levels 77 = .ok (.aload_n 0, 1) := by decide +kernel
theorem dX5_levels_78 : decode cX5_levels 78 = .ok (.iconst 4, 1) := by decide +kernel
theorem dX5_levels_79 : decode cX5_levels 79 = .ok (.invokevirtual 126, 3) := by decide +kernel
theorem dX5_levels_82 : decode cX5_levels 82 = .ok (.iload 6, 2) := by decide +kernel
theorem dX5_levels_84 : decode cX5_levels 84 = .ok (.bipush 10, 2) := by decide +kernel
theorem dX5_levels_86 : decode cX5_levels 86 = .ok (.if_icmp .le 13, 3) := by decide +kernel
theorem dX5_levels_89 : decode cX5_levels 89 = .ok (.iload 7, 2) := by decide +kernel
theorem dX5_levels_91 : decode cX5_levels 91 = .ok (.iconst 3, 1) := by decide +kernel
theorem dX5_levels_92 : decode cX5_levels 92 = .ok (.if_icmp .ge 7, 3) := by decide +kernel
theorem dX5_levels_95 : decode cX5_levels 95 = .ok (.iconst 1, 1) := by decide +kernel
theorem dX5_levels_96 : decode cX5_levels 96 = .ok (.goto 4, 3) := by decide +kernel
theorem dX5_levels_99 : decode cX5_levels 99 = .ok (.iconst 0, 1) := by decide +kernel
theorem dX5_levels_100 : decode cX5_levels 100 = .ok (.istore 8, 2) := by decide +kernel
theorem dX5_levels_102 : decode cX5_levels 102 = .ok (.iconst 0, 1) := by decide +kernel
theorem dX5_levels_103 : decode cX5_levels 103 = .ok (.istore 9, 2) := by decide +kernel
theorem dX5_levels_105 : decode cX5_levels 105 = .ok (.iload 9, 2) := by decide +kernel
theorem dX5_levels_107 : decode cX5_levels 107 = .ok (.iload 6, 2) := by decide +kernel
theorem dX5_levels_109 : decode cX5_levels 109 = .ok (.if_icmp .ge 118, 3) := by decide +kernel
theorem dX5_levels_112 : decode cX5_levels 112 = .ok (.iload 9, 2) := by decide +kernel
theorem dX5_levels_114 : decode cX5_levels 114 = .ok (.iload 7, 2) := by decide +kernel
theorem dX5_levels_116 : decode cX5_levels 116 = .ok (.if_icmp .ge 24, 3) := by decide +kernel
theorem dX5_levels_119 : decode cX5_levels 119 = .ok (.aload_n 0, 1) := by decide +kernel
theorem dX5_levels_120 : decode cX5_levels 120 = .ok (.getfield 21, 3) := by decide +kernel
theorem dX5_levels_123 : decode cX5_levels 123 = .ok (.iload 9, 2) := by decide +kernel
theorem dX5_levels_125 : decode cX5_levels 125 = .ok (.iconst 1, 1) := by decide +kernel
theorem dX5_levels_126 : decode cX5_levels 126 = .ok (.iconst 2, 1) := by decide +kernel
theorem dX5_levels_127 : decode cX5_levels 127 = .ok (.aload_n 0, 1) := by decide +kernel
theorem dX5_levels_128 : decode cX5_levels 128 = .ok (.bipush 12, 2) := by decide +kernel
theorem dX5_levels_130 : decode cX5_levels 130 = .ok (.iconst 1, 1) := by decide +kernel
theorem dX5_levels_131 : decode cX5_levels 131 = .ok (.invokevirtual 130, 3) := by decide +kernel
theorem dX5_levels_134 : decode cX5_levels 134 = .ok (.imul, 1) := by decide +kernel
theorem dX5_levels_135 : decode cX5_levels 135 = .ok (.isub, 1) := by decide +kernel
theorem dX5_levels_136 : decode cX5_levels 136 = .ok (.iastore, 1) := by decide +kernel
theorem dX5_levels_137 : decode cX5_levels 137 = .ok (.goto 84, 3) := by decide +kernel
theorem dX5_levels_140 : decode cX5_levels 140 = .ok (.aload_n 0, 1) := by decide +kernel
theorem dX5_levels_141 : decode cX5_levels 141 = .ok (.getfield 21, 3) := by decide +kernel
theorem dX5_levels_144 : decode cX5_levels 144 = .ok (.iload 9, 2) := by decide +kernel
theorem dX5_levels_146 : decode cX5_levels 146 = .ok (.aload_n 0, 1) := by decide +kernel
theorem dX5_levels_147 : decode cX5_levels 147 = .ok (.iload 8, 2) := by decide +kernel
theorem dX5_levels_149 : decode cX5_levels 149 = .ok (.iload 9, 2) := by decide +kernel
theorem dX5_levels_151 : decode cX5_levels 151 = .ok (.iload 7, 2) := by decide +kernel
theorem dX5_levels_153 : decode cX5_levels 153 = .ok (.if_icmp .ne 13, 3) := by decide +kernel
theorem dX5_levels_156 : decode cX5_levels 156 = .ok (.iload 7, 2) := by decide +kernel
theorem dX5_levels_158 : decode cX5_levels 158 = .ok (.iconst 3, 1) := by decide +kernel
theorem dX5_levels_159 : decode cX5_levels 159 = .ok (.if_icmp .ge 7, 3) := by decide +kernel
theorem dX5_levels_162 : decode cX5_levels 162 = .ok (.iconst 1, 1) := by decide +kernel
theorem dX5_levels_163 : decode cX5_levels 163 = .ok (.goto 4, 3) := by decide +kernel
theorem dX5_levels_166 : decode cX5_levels 166 = .ok (.iconst 0, 1) := by decide +kernel
theorem dX5_levels_167 : decode cX5_levels 167 = .ok (.invokevirtual 145, 3) := by decide +kernel
theorem dX5_levels_170 : decode cX5_levels 170 = .ok (.iastore, 1) := by decide +kernel
theorem dX5_levels_171 : decode cX5_levels 171 = .ok (.iload 8, 2) := by decide +kernel
theorem dX5_levels_173 : decode cX5_levels 173 = .ok (.ifCond .ne 7, 3) := by decide +kernel
theorem dX5_levels_176 : decode cX5_levels 176 = .ok (.iconst 1, 1) := by decide +kernel
theorem dX5_levels_177 : decode cX5_levels 177 = .ok (.goto 5, 3) := by decide +kernel
theorem dX5_levels_180 : decode cX5_levels 180 = .ok (.iload 8, 2) := by decide +kernel
theorem dX5_levels_182 : decode cX5_levels 182 = .ok (.istore 8, 2) := by decide +kernel
theorem dX5_levels_184 : decode cX5_levels 184 = .ok (.iload 8, 2) := by decide +kernel
theorem dX5_levels_186 : decode cX5_levels 186 = .ok (.bipush 6, 2) := by decide +kernel
theorem dX5_levels_188 : decode cX5_levels 188 = .ok (.if_icmp .ge 29, 3) := by decide +kernel
theorem dX5_levels_191 : decode cX5_levels 191 = .ok (.aload_n 0, 1) := by decide +kernel
theorem dX5_levels_192 : decode cX5_levels 192 = .ok (.getfield 21, 3) := by decide +kernel
theorem dX5_levels_195 : decode cX5_levels 195 = .ok (.iload 9, 2) := by decide +kernel
theorem dX5_levels_197 : decode cX5_levels 197 = .ok (.iaload, 1) := by decide +kernel
theorem dX5_levels_198 : decode cX5_levels 198 = .ok (.invokestatic 149, 3) := by decide +kernel
theorem dX5_levels_201 : decode cX5_levels 201 = .ok (.iconst 3, 1) := by decide +kernel
theorem dX5_levels_202 : decode cX5_levels 202 = .ok (.iload 8, 2) := by decide +kernel
theorem dX5_levels_204 : decode cX5_levels 204 = .ok (.iconst 1, 1) := by decide +kernel
theorem dX5_levels_205 : decode cX5_levels 205 = .ok (.isub, 1) := by decide +kernel
theorem dX5_levels_206 : decode cX5_levels 206 = .ok (.ishl, 1) := by decide +kernel
theorem dX5_levels_207 : decode cX5_levels 207 = .ok (.if_icmp .le 10, 3) := by decide +kernel
theorem dX5_levels_210 : decode cX5_levels 210 = .ok (.iload 8, 2) := by decide +kernel
theorem dX5_levels_212 : decode cX5_levels 212 = .ok (.iconst 1, 1) := by decide +kernel
theorem dX5_levels_213 : decode cX5_levels 213 = .ok (.iadd, 1) := by decide +kernel
theorem dX5_levels_214 : decode cX5_levels 214 = .ok (.goto 5, 3) := by decide +kernel
theorem dX5_levels_217 : decode cX5_levels 217 = .ok (.iload 8, 2) := by decide +kernel
theorem dX5_levels_219 : decode cX5_levels 219 = .ok (.istore 8, 2) := by decide +kernel
theorem dX5_levels_221 : decode cX5_levels 221 = .ok (.iinc 9 1, 3) := by decide +kernel
theorem dX5_levels_224 : decode cX5_levels 224 = .ok (.goto (-119), 3) := by decide +kernel
theorem dX5_levels_227 : decode cX5_levels 227 = .ok (.aload_n 0, 1) := by decide +kernel
theorem dX5_levels_228 : decode cX5_levels 228 = .ok (.iload_n 2, 1) := by decide +kernel
theorem dX5_levels_229 : decode cX5_levels 229 = .ok (.iload 6, 2) := by decide +kernel
theorem dX5_levels_231 : decode cX5_levels 231 = .ok (.aload_n 3, 1) := by decide +kernel
theorem dX5_levels_232 : decode cX5_levels 232 = .ok (.iload 4, 2) := by decide +kernel
theorem dX5_levels_234 : decode cX5_levels 234 = .ok (.invokevirtual 155, 3) := by decide +kernel
theorem dX5_levels_237 : decode cX5_levels 237 = .ok (.iload 6, 2) := by decide +kernel
theorem dX5_levels_239 : decode cX5_levels 239 = .ok (.ireturn, 1) := by decide +kernel
def FX5_levels (G : GG) (M : DD) (a : Nat) (p0 : Int32) (p1 : Int32) (p2 : Option Nat) (p3 : Int32) : Option (DD × Int32) :=
  bnd (if p0 = ((3 : Int32)) then (bnd (FX5_fixed G M a ((11 : Int32)) ((6 : Int32))) fun y49 =>
  bnd (if y49.2 = ((3 : Int32)) then (some ((0 : Int32))) else
  (ltt ((y49.2 + ((4 : Int32)))) fun x52 =>
  some (x52))) fun (y50 : Int32) =>
  some (y50, y49.1)) else
  (bnd (if p0 = ((4 : Int32)) then (some ((3 : Int32))) else
  (some (p0))) fun (y46 : Int32) =>
  bnd (FX5_code G M a ((11 : Int32)) y46) fun y47 =>
  some (y47.2, y47.1))) fun (y1 : Int32 × DD) =>
  ltt ((y1.1 >>> (((2 : Int32)) &&& 31))) fun x2 =>
  ltt ((y1.1 &&& ((3 : Int32)))) fun x3 =>
  bnd (if x2 < x3 then (none) else
  (some (y1.2))) fun (y4 : DD) =>
  bnd (if x2 ≤ p1 then (some (y4)) else
  (none)) fun (y5 : DD) =>
  bnd (if x2 ≤ ((10 : Int32)) then (some ((0 : Int32))) else
  (bnd (if ((3 : Int32)) ≤ x3 then (some ((0 : Int32))) else
  (some ((1 : Int32)))) fun (y41 : Int32) =>
  some (y41))) fun (y6 : Int32) =>
  bnd (itr (fun (s8 : Int32 × Int32 × DD) => ((if x2 ≤ s8.2.1 then (some (.inr (s8.1, s8.2.1, s8.2.2))) else
  (bnd (if x3 ≤ s8.2.1 then (bnd (if s8.2.1 = x3 then (bnd (if ((3 : Int32)) ≤ x3 then (some ((0 : Int32))) else
  (some ((1 : Int32)))) fun (y33 : Int32) =>
  some (y33)) else
  (some ((0 : Int32)))) fun (y16 : Int32) =>
  bnd (FX5_oneLevel G s8.2.2 a s8.1 y16) fun y17 =>
  dr G 13 ((s8.2.2.2 a 14)) fun b18 =>
  chk (¬ (s8.2.1 < 0 ∨ G.2.2 b18 ≤ s8.2.1.toNatClampNeg)) <|
  ltt (uI y17.1 b18 s8.2.1.toNatClampNeg y17.2) fun M19 =>
  bnd (if s8.1 = ((0 : Int32)) then (some ((1 : Int32))) else
  (some (s8.1))) fun (y20 : Int32) =>
  bnd (if ((6 : Int32)) ≤ y20 then (some (y20, M19)) else
  (dr G 13 ((M19.2 a 14)) fun b23 =>
  chk (¬ (s8.2.1 < 0 ∨ G.2.2 b23 ≤ s8.2.1.toNatClampNeg)) <|
  ltt (M19.1 b23 s8.2.1.toNatClampNeg) fun x24 =>
  ltt (if (0 : Int32) ≤ x24 then x24 else 0 - x24) fun x25 =>
  ltt ((y20 - ((1 : Int32)))) fun x26 =>
  ltt ((((3 : Int32)) <<< (x26 &&& 31))) fun x27 =>
  bnd (if x25 ≤ x27 then (some (y20)) else
  (ltt ((y20 + ((1 : Int32)))) fun x30 =>
  some (x30))) fun (y28 : Int32) =>
  some (y28, M19))) fun (y21 : Int32 × DD) =>
  some (y21.1, y21.2)) else
  (bnd (FX5_fixed G s8.2.2 a ((12 : Int32)) ((1 : Int32))) fun y35 =>
  ltt ((((2 : Int32)) * y35.2)) fun x36 =>
  ltt ((((1 : Int32)) - x36)) fun x37 =>
  dr G 13 ((s8.2.2.2 a 14)) fun b38 =>
  chk (¬ (s8.2.1 < 0 ∨ G.2.2 b38 ≤ s8.2.1.toNatClampNeg)) <|
  ltt (uI y35.1 b38 s8.2.1.toNatClampNeg x37) fun M39 =>
  some (s8.1, M39))) fun (y13 : Int32 × DD) =>
  ltt (s8.2.1 + (1 : Int32)) fun x14 =>
  some (.inl (y13.1, x14, y13.2)))) : Option ((Int32 × Int32 × DD) ⊕ (Int32 × Int32 × DD)))) 1000000 (y6, (0 : Int32), y5)) fun (y7 : Int32 × Int32 × DD) =>
  bnd (FX5_spread G y7.2.2 a p1 x2 p2 p3) fun y10 =>
  some (y10, x2)
set_option maxHeartbeats 4000000 in
set_option maxRecDepth 100000 in
theorem kX5_levels (l : Launch) (D : va_G) (ct : CT) (ad : Nat → Nat) (Z : Nat → Nat) (G : GG) (M : DD) (sz : Nat) (a : Nat) (p0 : Int32) (p1 : Int32) (p2 : Option Nat) (p3 : Int32) (y : DD × Int32) (hc : a < G.1) (hk : G.2.1 a = 5) (hF : FX5_levels G M a p0 p1 p2 p3 = some y) : Met l yX5_levels wuX5_levels ({ frames := 3, cells := 0, slots := 0, locals := 79 }) (va_Pc [.ref (ad a), .int p0, .int p1, va_re ad p2, .int p3] (kB D ct ad Z G M sz)) (va_Qi (fun (q : Int32) (_ : Unit) => q = y.2) (fun _ t => kE D ct ad G (wA ad G sz) y.1 t) (wA ad G sz)) 0 0 (wA ad G sz) := by
  refine Met.ofW (cc := cX5_levels) (maxL := 10) (ret := (some .int)) (by decide) rfl ?_
  intro p e s m args below meth c s₁ B hml hv
  obtain ⟨rfl, hsz, hP, hK, hD0, hZ, hN⟩ := hv
  have hx := B.exec
  have hb := B.bytes
  have hr := B.returns
  have hts := atoms_spec (ws := wuX5_levels) B.pre
  have hown : s.vm.findClass RX5 = some m.cls := findClass_of_methodNamed B.named
  have hlocks := B.notSynchronized
  subst hsz
  have hD := wD_self (sz := s.heap.size) hD0
  have hA9 : ∀ q, s.heap.size ≤ q → wA ad G s.heap.size q := fun q h => Or.inr h
  generalize hAe : wA ad G s.heap.size = A at hD hA9 hZ ⊢
  have hS : va_S A s.heap s.heap [] := va_S.rf
  have hl := lv_entry ([.ref (ad a), .int p0, .int p1, va_re ad p2, .int p3]) (n := 10) (by cases p2 <;> exact Nat.le_of_ble_eq_true rfl)
  rw [lg_entry_eq]
  generalize (lg_sl ([.ref (ad a), .int p0, .int p1, va_re ad p2, .int p3]) ++ List.replicate (10 - (lg_sl ([.ref (ad a), .int p0, .int p1, va_re ad p2, .int p3])).length) Slot.unset).toArray = ls at hl ⊢
  have hl : lv_has ls 10 [(0, .ref (ad a)), (1, .int p0), (2, .int p1), (3, va_re ad p2), (4, .int p3)] := by have e9 : lv_args 0 [.ref (ad a), .int p0, .int p1, va_re ad p2, .int p3] = [(0, .ref (ad a)), (1, .int p0), (2, .int p1), (3, va_re ad p2), (4, .int p3)] := (by cases p2 <;> rfl); rw [e9] at hl; exact hl
  unfold FX5_levels at hF
  refine lv_iload_n hx hb dX5_levels_0 rfl (lv_at hl 1 rfl) ?_
  refine lv_iconst (v := (3 : Int32)) hx hb dX5_levels_1 (by decide) ?_
  obtain ⟨y1, hy1, hF⟩ := bnd_some hF
  have J1 : ∀ (H : Heap) (locs : List Loc) (ls : Array Slot), va_P D classes (wld ct ad G y1.2) H → va_D A (wld ct ad G y1.2) → va_S A s.heap H locs → lv_has ls 10 [(5, .int y1.1), (0, .ref (ad a)), (1, .int p0), (2, .int p1), (3, va_re ad p2), (4, .int p3)] → W p l e (headSpec wuX5_levels ({ frames := 3, cells := 0, slots := 0, locals := 79 })).room s m ([.ref (ad a), .int p0, .int p1, va_re ad p2, .int p3] : List Value).toArray below meth c H locs 0 0 (MQ below (va_Qi (fun (q : Int32) (_ : Unit) => q = y.2) (fun _ t => kE D ct ad G A y.1 t) A) ([.ref (ad a), .int p0, .int p1, va_re ad p2, .int p3] : List Value).toArray s 0 0 A) (F0 m 52 ls []) := by
    intro H locs ls hP hD hS hl
    refine lv_iload hx hb dX5_levels_52 (lv_at hl 0 rfl) ?_
    refine lv_iconst (v := (2 : Int32)) hx hb dX5_levels_54 (by decide) ?_
    refine lv_ishr hx hb dX5_levels_55 ?_
    obtain ⟨x2, ex2, hF⟩ := ltt_some hF
    refine lv_topi (fun zx2 ezx2 => ?_)
    obtain rfl : x2 = zx2 := ex2.trans ezx2.symm
    refine lv_istore (lv' := [(6, .int x2), (5, .int y1.1), (0, .ref (ad a)), (1, .int p0), (2, .int p1), (3, va_re ad p2), (4, .int p3)]) hx hb dX5_levels_56 hl (by decide) rfl (fun ls hl => ?_)
    refine lv_iload hx hb dX5_levels_58 (lv_at hl 1 rfl) ?_
    refine lv_iconst (v := (3 : Int32)) hx hb dX5_levels_60 (by decide) ?_
    refine lv_iand hx hb dX5_levels_61 ?_
    obtain ⟨x3, ex3, hF⟩ := ltt_some hF
    refine lv_topi (fun zx3 ezx3 => ?_)
    obtain rfl : x3 = zx3 := ex3.trans ezx3.symm
    refine lv_istore (lv' := [(7, .int x3), (6, .int x2), (5, .int y1.1), (0, .ref (ad a)), (1, .int p0), (2, .int p1), (3, va_re ad p2), (4, .int p3)]) hx hb dX5_levels_62 hl (by decide) rfl (fun ls hl => ?_)
    refine lv_iload hx hb dX5_levels_64 (lv_at hl 0 rfl) ?_
    refine lv_iload hx hb dX5_levels_66 (lv_at hl 1 rfl) ?_
    obtain ⟨y4, hy4, hF⟩ := bnd_some hF
    have J4 : ∀ (H : Heap) (locs : List Loc) (ls : Array Slot), va_P D classes (wld ct ad G y4) H → va_D A (wld ct ad G y4) → va_S A s.heap H locs → lv_has ls 10 [(7, .int x3), (6, .int x2), (5, .int y1.1), (0, .ref (ad a)), (1, .int p0), (2, .int p1), (3, va_re ad p2), (4, .int p3)] → W p l e (headSpec wuX5_levels ({ frames := 3, cells := 0, slots := 0, locals := 79 })).room s m ([.ref (ad a), .int p0, .int p1, va_re ad p2, .int p3] : List Value).toArray below meth c H locs 0 0 (MQ below (va_Qi (fun (q : Int32) (_ : Unit) => q = y.2) (fun _ t => kE D ct ad G A y.1 t) A) ([.ref (ad a), .int p0, .int p1, va_re ad p2, .int p3] : List Value).toArray s 0 0 A) (F0 m 71 ls []) := by
      intro H locs ls hP hD hS hl
      refine lv_iload hx hb dX5_levels_71 (lv_at hl 1 rfl) ?_
      refine lv_iload_n hx hb dX5_levels_73 rfl (lv_at hl 5 rfl) ?_
      obtain ⟨y5, hy5, hF⟩ := bnd_some hF
      have J5 : ∀ (H : Heap) (locs : List Loc) (ls : Array Slot), va_P D classes (wld ct ad G y5) H → va_D A (wld ct ad G y5) → va_S A s.heap H locs → lv_has ls 10 [(7, .int x3), (6, .int x2), (5, .int y1.1), (0, .ref (ad a)), (1, .int p0), (2, .int p1), (3, va_re ad p2), (4, .int p3)] → W p l e (headSpec wuX5_levels ({ frames := 3, cells := 0, slots := 0, locals := 79 })).room s m ([.ref (ad a), .int p0, .int p1, va_re ad p2, .int p3] : List Value).toArray below meth c H locs 0 0 (MQ below (va_Qi (fun (q : Int32) (_ : Unit) => q = y.2) (fun _ t => kE D ct ad G A y.1 t) A) ([.ref (ad a), .int p0, .int p1, va_re ad p2, .int p3] : List Value).toArray s 0 0 A) (F0 m 82 ls []) := by
        intro H locs ls hP hD hS hl
        refine lv_iload hx hb dX5_levels_82 (lv_at hl 1 rfl) ?_
        refine lv_bipush (v := (10 : Int32)) hx hb dX5_levels_84 (by decide) ?_
        obtain ⟨y6, hy6, hF⟩ := bnd_some hF
        have J6 : ∀ (H : Heap) (locs : List Loc) (ls : Array Slot), va_P D classes (wld ct ad G y5) H → va_D A (wld ct ad G y5) → va_S A s.heap H locs → lv_has ls 10 [(7, .int x3), (6, .int x2), (5, .int y1.1), (0, .ref (ad a)), (1, .int p0), (2, .int p1), (3, va_re ad p2), (4, .int p3)] → W p l e (headSpec wuX5_levels ({ frames := 3, cells := 0, slots := 0, locals := 79 })).room s m ([.ref (ad a), .int p0, .int p1, va_re ad p2, .int p3] : List Value).toArray below meth c H locs 0 0 (MQ below (va_Qi (fun (q : Int32) (_ : Unit) => q = y.2) (fun _ t => kE D ct ad G A y.1 t) A) ([.ref (ad a), .int p0, .int p1, va_re ad p2, .int p3] : List Value).toArray s 0 0 A) (F0 m 100 ls [.int y6]) := by
          intro H locs ls hP hD hS hl
          refine lv_istore (lv' := [(8, .int y6), (7, .int x3), (6, .int x2), (5, .int y1.1), (0, .ref (ad a)), (1, .int p0), (2, .int p1), (3, va_re ad p2), (4, .int p3)]) hx hb dX5_levels_100 hl (by decide) rfl (fun ls hl => ?_)
          refine lv_iconst (v := (0 : Int32)) hx hb dX5_levels_102 (by decide) ?_
          refine lv_istore (lv' := [(9, .int (0 : Int32)), (8, .int y6), (7, .int x3), (6, .int x2), (5, .int y1.1), (0, .ref (ad a)), (1, .int p0), (2, .int p1), (3, va_re ad p2), (4, .int p3)]) hx hb dX5_levels_103 hl (by decide) rfl (fun ls hl => ?_)
          obtain ⟨y7, hy7, hF⟩ := bnd_some hF
          have K7 : ∀ (H : Heap) (locs : List Loc) (ls : Array Slot), va_P D classes (wld ct ad G y7.2.2) H → va_D A (wld ct ad G y7.2.2) → va_S A s.heap H locs → lv_has ls 10 [(9, .int y7.2.1), (8, .int y7.1), (7, .int x3), (6, .int x2), (5, .int y1.1), (0, .ref (ad a)), (1, .int p0), (2, .int p1), (3, va_re ad p2), (4, .int p3)] → W p l e (headSpec wuX5_levels ({ frames := 3, cells := 0, slots := 0, locals := 79 })).room s m ([.ref (ad a), .int p0, .int p1, va_re ad p2, .int p3] : List Value).toArray below meth c H locs 0 0 (MQ below (va_Qi (fun (q : Int32) (_ : Unit) => q = y.2) (fun _ t => kE D ct ad G A y.1 t) A) ([.ref (ad a), .int p0, .int p1, va_re ad p2, .int p3] : List Value).toArray s 0 0 A) (F0 m 227 ls []) := by
            intro H locs ls hP hD hS hl
            refine lv_aload_n hx hb dX5_levels_227 rfl (lv_at hl 5 rfl) ?_
            refine lv_iload_n hx hb dX5_levels_228 rfl (lv_at hl 7 rfl) ?_
            refine lv_iload hx hb dX5_levels_229 (lv_at hl 3 rfl) ?_
            refine lv_aloadq_n hx hb dX5_levels_231 rfl (lv_at hl 8 rfl) ?_
            refine lv_iload hx hb dX5_levels_232 (lv_at hl 9 rfl) ?_
            obtain ⟨y10, hy10, hF⟩ := bnd_some hF
            have hf9 := wA_in hD hA9 hS
            refine va_callv (va_runV (As := [.int p1, .int x2, va_re ad p2, .int p3]) (rest := []) ⟨hx, hb, hml, hown, hts⟩ (kX5_spread l D ct ad Z G y7.2.2 H.size a p1 x2 p2 p3 y10 hc hk hy10) (cwV 4 hts gX5_levels_X5_spread rfl rfl rfl (by decide +kernel) ⟨Nat.le_of_ble_eq_true rfl, Nat.le_of_ble_eq_true rfl⟩) ⟨fun a U g mk q => by obtain ⟨q0, q1, qP, qK, qD, qZ, qN⟩ := q; exact ⟨q0, q1, qP, va_K.moved (u := U) (U := U.calling g mk a) (Vm.Alike.refl U.vm) qK, qD, sF.moved (u := U) (U := U.calling g mk a) (Vm.Alike.refl U.vm) qZ, nF.same rfl qN⟩, va_recv hK hP (ci := 5) (q0 := a) rfl (wld_o ct ad G y7.2.2 hc hk (by decide)), fun U hU hW => ⟨rfl, by rw [hU], by rw [hU]; exact hP, va_K.moved hW.alike hK, hD.weaken (fun _ _ _ _ => trivial), by rw [hU]; exact ((hZ.kept hS.2.1).narrow hf9).moved hW.alike, hN.warm hW⟩⟩ rfl rfl hl.1 rfl (lv_room (Nat.le_of_ble_eq_true rfl)) dX5_levels_234 ⟨(Nat.zero_le _), (Nat.zero_le _)⟩) hS (fun q _ h => hf9 q h) hf9 (fun u t H locs ht hvm hw hB hz1 hk1 hS => ?_)
            obtain ⟨hP, hK9, hD9⟩ := hB
            rw [ht] at hP
            have hD := hD9.weaken (fun _ q _ h => hf9 q.1 h)
            refine lv_iload hx hb dX5_levels_237 (lv_at hl 3 rfl) ?_
            obtain rfl := Option.some.inj hF
            exact W.iret (v := x2) hx hb hr (fun t ht hW => ⟨⟨_, (), rfl, rfl, ⟨by rw [ht]; exact hP, va_K.moved hW.alike hK, hD⟩⟩, hS.F ht⟩) hS.2.2 dX5_levels_239
          clear hF
          refine itr_rule (fun (s8 : Int32 × Int32 × DD) => ∀ (H : Heap) (locs : List Loc) (ls : Array Slot), va_P D classes (wld ct ad G s8.2.2) H → va_D A (wld ct ad G s8.2.2) → va_S A s.heap H locs → lv_has ls 10 [(9, .int s8.2.1), (8, .int s8.1), (7, .int x3), (6, .int x2), (5, .int y1.1), (0, .ref (ad a)), (1, .int p0), (2, .int p1), (3, va_re ad p2), (4, .int p3)] → W p l e (headSpec wuX5_levels ({ frames := 3, cells := 0, slots := 0, locals := 79 })).room s m ([.ref (ad a), .int p0, .int p1, va_re ad p2, .int p3] : List Value).toArray below meth c H locs 0 0 (MQ below (va_Qi (fun (q : Int32) (_ : Unit) => q = y.2) (fun _ t => kE D ct ad G A y.1 t) A) ([.ref (ad a), .int p0, .int p1, va_re ad p2, .int p3] : List Value).toArray s 0 0 A) (F0 m 105 ls [])) ?_ _ _ hy7 _ _ _ hP hD hS (lv_sub hl [0, 1, 2, 3, 4, 5, 6, 7, 8, 9] rfl)
          rintro s8 ⟨z11, hF, hwz11⟩ H locs ls hP hD hS hl
          try dsimp only at hF
          refine lv_iload hx hb dX5_levels_105 (lv_at hl 0 rfl) ?_
          refine lv_iload hx hb dX5_levels_107 (lv_at hl 3 rfl) ?_
          refine lv_icmp_ge (tgt := 227) hx hb dX5_levels_109 (by decide) (fun c12 => ?_) (fun c12 => ?_)
          · rw [if_pos c12] at hF
            obtain rfl := Option.some.inj hF
            subst hwz11
            exact K7 _ _ _ hP hD hS (lv_sub hl [0, 1, 2, 3, 4, 5, 6, 7, 8, 9] rfl)
          · rw [if_neg c12] at hF
            refine lv_iload hx hb dX5_levels_112 (lv_at hl 0 rfl) ?_
            refine lv_iload hx hb dX5_levels_114 (lv_at hl 2 rfl) ?_
            obtain ⟨y13, hy13, hF⟩ := bnd_some hF
            have J13 : ∀ (H : Heap) (locs : List Loc) (ls : Array Slot), va_P D classes (wld ct ad G y13.2) H → va_D A (wld ct ad G y13.2) → va_S A s.heap H locs → lv_has ls 10 [(9, .int s8.2.1), (8, .int y13.1), (7, .int x3), (6, .int x2), (5, .int y1.1), (0, .ref (ad a)), (1, .int p0), (2, .int p1), (3, va_re ad p2), (4, .int p3)] → W p l e (headSpec wuX5_levels ({ frames := 3, cells := 0, slots := 0, locals := 79 })).room s m ([.ref (ad a), .int p0, .int p1, va_re ad p2, .int p3] : List Value).toArray below meth c H locs 0 0 (MQ below (va_Qi (fun (q : Int32) (_ : Unit) => q = y.2) (fun _ t => kE D ct ad G A y.1 t) A) ([.ref (ad a), .int p0, .int p1, va_re ad p2, .int p3] : List Value).toArray s 0 0 A) (F0 m 221 ls []) := by
              intro H locs ls hP hD hS hl
              obtain ⟨x14, ex14, hF⟩ := ltt_some hF
              refine lv_iinc (v := x14) (lv' := [(9, .int x14), (8, .int y13.1), (7, .int x3), (6, .int x2), (5, .int y1.1), (0, .ref (ad a)), (1, .int p0), (2, .int p1), (3, va_re ad p2), (4, .int p3)]) hx hb dX5_levels_221 hl (k := 0) rfl (by rw [ex14]; rfl) (by decide) rfl (fun ls hl => ?_)
              refine lv_goto (tgt := 105) hx hb dX5_levels_224 (by decide) ?_
              obtain rfl := Option.some.inj hF
              exact hwz11 _ _ _ hP hD hS (lv_sub hl [0, 1, 2, 3, 4, 5, 6, 7, 8, 9] rfl)
            clear hF
            have hF := hy13
            clear hy13
            refine lv_icmp_ge (tgt := 140) hx hb dX5_levels_116 (by decide) (fun c15 => ?_) (fun c15 => ?_)
            · rw [if_pos c15] at hF
              refine lv_aload_n hx hb dX5_levels_140 rfl (lv_at hl 5 rfl) ?_
              refine va_get (D := D) (ci := 5) (v := va_re ad (s8.2.2.2 a 14)) (C := RX5) (T := TX5) (N := 17) hx hb hts (mus hf_X5) hown hK hP a (wld_o ct ad G s8.2.2 hc hk (by decide)) rfl 14 (by decide) (hts (.fieldLink RX5 21 "VideoSuite$Reader" "size" "[I") (mu mw_305)) (fun _ h9 => h9) rfl dX5_levels_141 ?_
              refine lv_iload hx hb dX5_levels_144 (lv_at hl 0 rfl) ?_
              refine lv_aload_n hx hb dX5_levels_146 rfl (lv_at hl 5 rfl) ?_
              refine lv_iload hx hb dX5_levels_147 (lv_at hl 1 rfl) ?_
              refine lv_iload hx hb dX5_levels_149 (lv_at hl 0 rfl) ?_
              refine lv_iload hx hb dX5_levels_151 (lv_at hl 2 rfl) ?_
              obtain ⟨y16, hy16, hF⟩ := bnd_some hF
              have J16 : ∀ (H : Heap) (locs : List Loc) (ls : Array Slot), va_P D classes (wld ct ad G s8.2.2) H → va_D A (wld ct ad G s8.2.2) → va_S A s.heap H locs → lv_has ls 10 [(9, .int s8.2.1), (8, .int s8.1), (7, .int x3), (6, .int x2), (5, .int y1.1), (0, .ref (ad a)), (1, .int p0), (2, .int p1), (3, va_re ad p2), (4, .int p3)] → W p l e (headSpec wuX5_levels ({ frames := 3, cells := 0, slots := 0, locals := 79 })).room s m ([.ref (ad a), .int p0, .int p1, va_re ad p2, .int p3] : List Value).toArray below meth c H locs 0 0 (MQ below (va_Qi (fun (q : Int32) (_ : Unit) => q = y.2) (fun _ t => kE D ct ad G A y.1 t) A) ([.ref (ad a), .int p0, .int p1, va_re ad p2, .int p3] : List Value).toArray s 0 0 A) (F0 m 167 ls [.int y16, .int s8.1, .ref (ad a), .int s8.2.1, va_re ad (s8.2.2.2 a 14)]) := by
                intro H locs ls hP hD hS hl
                obtain ⟨y17, hy17, hF⟩ := bnd_some hF
                have hf9 := wA_in hD hA9 hS
                refine va_calli (va_runV (As := [.int s8.1, .int y16]) (rest := [.int s8.2.1, va_re ad (s8.2.2.2 a 14)]) ⟨hx, hb, hml, hown, hts⟩ (kX5_oneLevel l D ct ad Z G s8.2.2 H.size a s8.1 y16 y17 hc hk hy17) (cwV 2 hts gX5_levels_X5_oneLevel rfl rfl rfl (by decide +kernel) ⟨Nat.le_of_ble_eq_true rfl, Nat.le_of_ble_eq_true rfl⟩) ⟨fun a U g mk q => by obtain ⟨q0, q1, qP, qK, qD, qZ, qN⟩ := q; exact ⟨q0, q1, qP, va_K.moved (u := U) (U := U.calling g mk a) (Vm.Alike.refl U.vm) qK, qD, sF.moved (u := U) (U := U.calling g mk a) (Vm.Alike.refl U.vm) qZ, nF.same rfl qN⟩, va_recv hK hP (ci := 5) (q0 := a) rfl (wld_o ct ad G s8.2.2 hc hk (by decide)), fun U hU hW => ⟨rfl, by rw [hU], by rw [hU]; exact hP, va_K.moved hW.alike hK, hD.weaken (fun _ _ _ _ => trivial), by rw [hU]; exact ((hZ.kept hS.2.1).narrow hf9).moved hW.alike, hN.warm hW⟩⟩ rfl rfl hl.1 rfl (lv_room (by simp only [List.map, va_re_cat]; exact Nat.le_of_ble_eq_true rfl)) dX5_levels_167 ⟨(Nat.zero_le _), (Nat.zero_le _)⟩) hS (fun q _ h => hf9 q h) hf9 (fun r u t H locs ht hvm hw hB hz1 hk1 hS => ?_)
                obtain ⟨hP, hK9, hD9⟩ := hB
                rw [ht] at hP
                try dsimp only at hw
                subst hw
                have hD := hD9.weaken (fun _ q _ h => hf9 q.1 h)
                obtain ⟨b18, ho18, hc18, hk18, hF⟩ := dr_some hF
                refine W_st (st' := [.int y17.2, .int s8.2.1, .ref (ad b18)]) (by rw [va_some ho18]) ?_
                obtain ⟨hvc, hF⟩ := chk_some hF
                refine va_iast hx hb hK hP hD hS b18 1 (wld_i ct ad G y17.1 hc18 hk18) rfl hvc dX5_levels_170 (fun H locs hP hD hS => ?_)
                obtain ⟨M19, eM19, hF⟩ := ltt_some hF
                rw [set_i ct ad G y17.1 hc18 hk18, ← eM19] at hP hD
                refine lv_iload hx hb dX5_levels_171 (lv_at hl 1 rfl) ?_
                obtain ⟨y20, hy20, hF⟩ := bnd_some hF
                have J20 : ∀ (H : Heap) (locs : List Loc) (ls : Array Slot), va_P D classes (wld ct ad G M19) H → va_D A (wld ct ad G M19) → va_S A s.heap H locs → lv_has ls 10 [(9, .int s8.2.1), (8, .int s8.1), (7, .int x3), (6, .int x2), (5, .int y1.1), (0, .ref (ad a)), (1, .int p0), (2, .int p1), (3, va_re ad p2), (4, .int p3)] → W p l e (headSpec wuX5_levels ({ frames := 3, cells := 0, slots := 0, locals := 79 })).room s m ([.ref (ad a), .int p0, .int p1, va_re ad p2, .int p3] : List Value).toArray below meth c H locs 0 0 (MQ below (va_Qi (fun (q : Int32) (_ : Unit) => q = y.2) (fun _ t => kE D ct ad G A y.1 t) A) ([.ref (ad a), .int p0, .int p1, va_re ad p2, .int p3] : List Value).toArray s 0 0 A) (F0 m 182 ls [.int y20]) := by
                  intro H locs ls hP hD hS hl
                  refine lv_istore (lv' := [(8, .int y20), (9, .int s8.2.1), (7, .int x3), (6, .int x2), (5, .int y1.1), (0, .ref (ad a)), (1, .int p0), (2, .int p1), (3, va_re ad p2), (4, .int p3)]) hx hb dX5_levels_182 hl (by decide) rfl (fun ls hl => ?_)
                  refine lv_iload hx hb dX5_levels_184 (lv_at hl 0 rfl) ?_
                  refine lv_bipush (v := (6 : Int32)) hx hb dX5_levels_186 (by decide) ?_
                  obtain ⟨y21, hy21, hF⟩ := bnd_some hF
                  have J21 : ∀ (H : Heap) (locs : List Loc) (ls : Array Slot), va_P D classes (wld ct ad G y21.2) H → va_D A (wld ct ad G y21.2) → va_S A s.heap H locs → lv_has ls 10 [(8, .int y20), (9, .int s8.2.1), (7, .int x3), (6, .int x2), (5, .int y1.1), (0, .ref (ad a)), (1, .int p0), (2, .int p1), (3, va_re ad p2), (4, .int p3)] → W p l e (headSpec wuX5_levels ({ frames := 3, cells := 0, slots := 0, locals := 79 })).room s m ([.ref (ad a), .int p0, .int p1, va_re ad p2, .int p3] : List Value).toArray below meth c H locs 0 0 (MQ below (va_Qi (fun (q : Int32) (_ : Unit) => q = y.2) (fun _ t => kE D ct ad G A y.1 t) A) ([.ref (ad a), .int p0, .int p1, va_re ad p2, .int p3] : List Value).toArray s 0 0 A) (F0 m 219 ls [.int y21.1]) := by
                    intro H locs ls hP hD hS hl
                    refine lv_istore (lv' := [(8, .int y21.1), (9, .int s8.2.1), (7, .int x3), (6, .int x2), (5, .int y1.1), (0, .ref (ad a)), (1, .int p0), (2, .int p1), (3, va_re ad p2), (4, .int p3)]) hx hb dX5_levels_219 hl (by decide) rfl (fun ls hl => ?_)
                    obtain rfl := Option.some.inj hF
                    exact J13 _ _ _ hP hD hS (lv_sub hl [1, 0, 2, 3, 4, 5, 6, 7, 8, 9] rfl)
                  clear hF
                  have hF := hy21
                  clear hy21
                  refine lv_icmp_ge (tgt := 217) hx hb dX5_levels_188 (by decide) (fun c22 => ?_) (fun c22 => ?_)
                  · rw [if_pos c22] at hF
                    refine lv_iload hx hb dX5_levels_217 (lv_at hl 0 rfl) ?_
                    obtain rfl := Option.some.inj hF
                    exact J21 _ _ _ hP hD hS (lv_sub hl [0, 1, 2, 3, 4, 5, 6, 7, 8, 9] rfl)
                  · rw [if_neg c22] at hF
                    refine lv_aload_n hx hb dX5_levels_191 rfl (lv_at hl 5 rfl) ?_
                    refine va_get (D := D) (ci := 5) (v := va_re ad (M19.2 a 14)) (C := RX5) (T := TX5) (N := 17) hx hb hts (mus hf_X5) hown hK hP a (wld_o ct ad G M19 hc hk (by decide)) rfl 14 (by decide) (hts (.fieldLink RX5 21 "VideoSuite$Reader" "size" "[I") (mu mw_305)) (fun _ h9 => h9) rfl dX5_levels_192 ?_
                    refine lv_iload hx hb dX5_levels_195 (lv_at hl 1 rfl) ?_
                    obtain ⟨b23, ho23, hc23, hk23, hF⟩ := dr_some hF
                    refine W_st (st' := [.int s8.2.1, .ref (ad b23)]) (by rw [va_some ho23]) ?_
                    obtain ⟨hvc, hF⟩ := chk_some hF
                    refine va_iald hx hb hK hP b23 1 (wld_i ct ad G M19 hc23 hk23) rfl hvc dX5_levels_197 ?_
                    obtain ⟨x24, ex24, hF⟩ := ltt_some hF
                    refine lv_topi (fun zx24 ezx24 => ?_)
                    obtain rfl : x24 = zx24 := ex24.trans ezx24.symm
                    refine va_mabs hx hb (hml.trans hl.1.symm) hown (hts (.methodLink RX5 149 Lib.Math.abs.name) (mu mw_2263)) (hts (.static Lib.Math.abs.name) (mu mw_990)) (hts (.initialized "java/lang/Math") (mu mw_183)) (hts (.code Lib.Math.abs.name Lib.Math.abs.code 1 (some .int)) (mu mw_991)) (Nat.le_of_ble_eq_true rfl) (Nat.le_of_ble_eq_true rfl) (Nat.zero_le _) (Nat.zero_le _) dX5_levels_198 ?_
                    obtain ⟨x25, ex25, hF⟩ := ltt_some hF
                    refine lv_topi (fun zx25 ezx25 => ?_)
                    obtain rfl : x25 = zx25 := ex25.trans ezx25.symm
                    refine lv_iconst (v := (3 : Int32)) hx hb dX5_levels_201 (by decide) ?_
                    refine lv_iload hx hb dX5_levels_202 (lv_at hl 0 rfl) ?_
                    refine lv_iconst (v := (1 : Int32)) hx hb dX5_levels_204 (by decide) ?_
                    refine lv_isub hx hb dX5_levels_205 ?_
                    obtain ⟨x26, ex26, hF⟩ := ltt_some hF
                    refine lv_topi (fun zx26 ezx26 => ?_)
                    obtain rfl : x26 = zx26 := ex26.trans ezx26.symm
                    refine lv_ishl hx hb dX5_levels_206 ?_
                    obtain ⟨x27, ex27, hF⟩ := ltt_some hF
                    refine lv_topi (fun zx27 ezx27 => ?_)
                    obtain rfl : x27 = zx27 := ex27.trans ezx27.symm
                    obtain ⟨y28, hy28, hF⟩ := bnd_some hF
                    have J28 : ∀ (H : Heap) (locs : List Loc) (ls : Array Slot), va_P D classes (wld ct ad G M19) H → va_D A (wld ct ad G M19) → va_S A s.heap H locs → lv_has ls 10 [(8, .int y20), (9, .int s8.2.1), (7, .int x3), (6, .int x2), (5, .int y1.1), (0, .ref (ad a)), (1, .int p0), (2, .int p1), (3, va_re ad p2), (4, .int p3)] → W p l e (headSpec wuX5_levels ({ frames := 3, cells := 0, slots := 0, locals := 79 })).room s m ([.ref (ad a), .int p0, .int p1, va_re ad p2, .int p3] : List Value).toArray below meth c H locs 0 0 (MQ below (va_Qi (fun (q : Int32) (_ : Unit) => q = y.2) (fun _ t => kE D ct ad G A y.1 t) A) ([.ref (ad a), .int p0, .int p1, va_re ad p2, .int p3] : List Value).toArray s 0 0 A) (F0 m 219 ls [.int y28]) := by
                      intro H locs ls hP hD hS hl
                      obtain rfl := Option.some.inj hF
                      exact J21 _ _ _ hP hD hS (lv_sub hl [0, 1, 2, 3, 4, 5, 6, 7, 8, 9] rfl)
                    clear hF
                    have hF := hy28
                    clear hy28
                    refine lv_icmp_le (tgt := 217) hx hb dX5_levels_207 (by decide) (fun c29 => ?_) (fun c29 => ?_)
                    · rw [if_pos c29] at hF
                      refine lv_iload hx hb dX5_levels_217 (lv_at hl 0 rfl) ?_
                      obtain rfl := Option.some.inj hF
                      exact J28 _ _ _ hP hD hS (lv_sub hl [0, 1, 2, 3, 4, 5, 6, 7, 8, 9] rfl)
                    · rw [if_neg c29] at hF
                      refine lv_iload hx hb dX5_levels_210 (lv_at hl 0 rfl) ?_
                      refine lv_iconst (v := (1 : Int32)) hx hb dX5_levels_212 (by decide) ?_
                      refine lv_iadd hx hb dX5_levels_213 ?_
                      obtain ⟨x30, ex30, hF⟩ := ltt_some hF
                      refine lv_topi (fun zx30 ezx30 => ?_)
                      obtain rfl : x30 = zx30 := ex30.trans ezx30.symm
                      refine lv_goto (tgt := 219) hx hb dX5_levels_214 (by decide) ?_
                      obtain rfl := Option.some.inj hF
                      exact J28 _ _ _ hP hD hS (lv_sub hl [0, 1, 2, 3, 4, 5, 6, 7, 8, 9] rfl)
                clear hF
                have hF := hy20
                clear hy20
                refine lv_if_ne (tgt := 180) hx hb dX5_levels_173 (by decide) (fun c31 => ?_) (fun c31 => ?_)
                · rw [if_neg c31] at hF
                  refine lv_iload hx hb dX5_levels_180 (lv_at hl 1 rfl) ?_
                  obtain rfl := Option.some.inj hF
                  exact J20 _ _ _ hP hD hS (lv_sub hl [0, 1, 2, 3, 4, 5, 6, 7, 8, 9] rfl)
                · rw [if_pos c31] at hF
                  refine lv_iconst (v := (1 : Int32)) hx hb dX5_levels_176 (by decide) ?_
                  refine lv_goto (tgt := 182) hx hb dX5_levels_177 (by decide) ?_
                  obtain rfl := Option.some.inj hF
                  exact J20 _ _ _ hP hD hS (lv_sub hl [0, 1, 2, 3, 4, 5, 6, 7, 8, 9] rfl)
              clear hF
              have hF := hy16
              clear hy16
              refine lv_icmp_ne (tgt := 166) hx hb dX5_levels_153 (by decide) (fun c32 => ?_) (fun c32 => ?_)
              · rw [if_neg c32] at hF
                refine lv_iconst (v := (0 : Int32)) hx hb dX5_levels_166 (by decide) ?_
                obtain rfl := Option.some.inj hF
                exact J16 _ _ _ hP hD hS (lv_sub hl [0, 1, 2, 3, 4, 5, 6, 7, 8, 9] rfl)
              · rw [if_pos c32] at hF
                refine lv_iload hx hb dX5_levels_156 (lv_at hl 2 rfl) ?_
                refine lv_iconst (v := (3 : Int32)) hx hb dX5_levels_158 (by decide) ?_
                obtain ⟨y33, hy33, hF⟩ := bnd_some hF
                have J33 : ∀ (H : Heap) (locs : List Loc) (ls : Array Slot), va_P D classes (wld ct ad G s8.2.2) H → va_D A (wld ct ad G s8.2.2) → va_S A s.heap H locs → lv_has ls 10 [(9, .int s8.2.1), (8, .int s8.1), (7, .int x3), (6, .int x2), (5, .int y1.1), (0, .ref (ad a)), (1, .int p0), (2, .int p1), (3, va_re ad p2), (4, .int p3)] → W p l e (headSpec wuX5_levels ({ frames := 3, cells := 0, slots := 0, locals := 79 })).room s m ([.ref (ad a), .int p0, .int p1, va_re ad p2, .int p3] : List Value).toArray below meth c H locs 0 0 (MQ below (va_Qi (fun (q : Int32) (_ : Unit) => q = y.2) (fun _ t => kE D ct ad G A y.1 t) A) ([.ref (ad a), .int p0, .int p1, va_re ad p2, .int p3] : List Value).toArray s 0 0 A) (F0 m 167 ls [.int y33, .int s8.1, .ref (ad a), .int s8.2.1, va_re ad (s8.2.2.2 a 14)]) := by
                  intro H locs ls hP hD hS hl
                  obtain rfl := Option.some.inj hF
                  exact J16 _ _ _ hP hD hS (lv_sub hl [0, 1, 2, 3, 4, 5, 6, 7, 8, 9] rfl)
                clear hF
                have hF := hy33
                clear hy33
                refine lv_icmp_ge (tgt := 166) hx hb dX5_levels_159 (by decide) (fun c34 => ?_) (fun c34 => ?_)
                · rw [if_pos c34] at hF
                  refine lv_iconst (v := (0 : Int32)) hx hb dX5_levels_166 (by decide) ?_
                  obtain rfl := Option.some.inj hF
                  exact J33 _ _ _ hP hD hS (lv_sub hl [0, 1, 2, 3, 4, 5, 6, 7, 8, 9] rfl)
                · rw [if_neg c34] at hF
                  refine lv_iconst (v := (1 : Int32)) hx hb dX5_levels_162 (by decide) ?_
                  refine lv_goto (tgt := 167) hx hb dX5_levels_163 (by decide) ?_
                  obtain rfl := Option.some.inj hF
                  exact J33 _ _ _ hP hD hS (lv_sub hl [0, 1, 2, 3, 4, 5, 6, 7, 8, 9] rfl)
            · rw [if_neg c15] at hF
              refine lv_aload_n hx hb dX5_levels_119 rfl (lv_at hl 5 rfl) ?_
              refine va_get (D := D) (ci := 5) (v := va_re ad (s8.2.2.2 a 14)) (C := RX5) (T := TX5) (N := 17) hx hb hts (mus hf_X5) hown hK hP a (wld_o ct ad G s8.2.2 hc hk (by decide)) rfl 14 (by decide) (hts (.fieldLink RX5 21 "VideoSuite$Reader" "size" "[I") (mu mw_305)) (fun _ h9 => h9) rfl dX5_levels_120 ?_
              refine lv_iload hx hb dX5_levels_123 (lv_at hl 0 rfl) ?_
              refine lv_iconst (v := (1 : Int32)) hx hb dX5_levels_125 (by decide) ?_
              refine lv_iconst (v := (2 : Int32)) hx hb dX5_levels_126 (by decide) ?_
              refine lv_aload_n hx hb dX5_levels_127 rfl (lv_at hl 5 rfl) ?_
              refine lv_bipush (v := (12 : Int32)) hx hb dX5_levels_128 (by decide) ?_
              refine lv_iconst (v := (1 : Int32)) hx hb dX5_levels_130 (by decide) ?_
              obtain ⟨y35, hy35, hF⟩ := bnd_some hF
              have hf9 := wA_in hD hA9 hS
              refine va_calli (va_runV (As := [.int (12 : Int32), .int (1 : Int32)]) (rest := [.int (2 : Int32), .int (1 : Int32), .int s8.2.1, va_re ad (s8.2.2.2 a 14)]) ⟨hx, hb, hml, hown, hts⟩ (kX5_fixed l D ct ad Z G s8.2.2 H.size a ((12 : Int32)) ((1 : Int32)) y35 hc hk hy35) (cwV 2 hts gX5_levels_X5_fixed rfl rfl rfl (by decide +kernel) ⟨Nat.le_of_ble_eq_true rfl, Nat.le_of_ble_eq_true rfl⟩) ⟨fun a U g mk q => by obtain ⟨q0, q1, qP, qK, qD, qZ, qN⟩ := q; exact ⟨q0, q1, qP, va_K.moved (u := U) (U := U.calling g mk a) (Vm.Alike.refl U.vm) qK, qD, sF.moved (u := U) (U := U.calling g mk a) (Vm.Alike.refl U.vm) qZ, nF.same rfl qN⟩, va_recv hK hP (ci := 5) (q0 := a) rfl (wld_o ct ad G s8.2.2 hc hk (by decide)), fun U hU hW => ⟨rfl, by rw [hU], by rw [hU]; exact hP, va_K.moved hW.alike hK, hD.weaken (fun _ _ _ _ => trivial), by rw [hU]; exact ((hZ.kept hS.2.1).narrow hf9).moved hW.alike, hN.warm hW⟩⟩ rfl rfl hl.1 rfl (lv_room (by simp only [List.map, va_re_cat]; exact Nat.le_of_ble_eq_true rfl)) dX5_levels_131 ⟨(Nat.zero_le _), (Nat.zero_le _)⟩) hS (fun q _ h => hf9 q h) hf9 (fun r u t H locs ht hvm hw hB hz1 hk1 hS => ?_)
              obtain ⟨hP, hK9, hD9⟩ := hB
              rw [ht] at hP
              try dsimp only at hw
              subst hw
              have hD := hD9.weaken (fun _ q _ h => hf9 q.1 h)
              refine lv_imul hx hb dX5_levels_134 ?_
              obtain ⟨x36, ex36, hF⟩ := ltt_some hF
              refine lv_topi (fun zx36 ezx36 => ?_)
              obtain rfl : x36 = zx36 := ex36.trans ezx36.symm
              refine lv_isub hx hb dX5_levels_135 ?_
              obtain ⟨x37, ex37, hF⟩ := ltt_some hF
              refine lv_topi (fun zx37 ezx37 => ?_)
              obtain rfl : x37 = zx37 := ex37.trans ezx37.symm
              obtain ⟨b38, ho38, hc38, hk38, hF⟩ := dr_some hF
              refine W_st (st' := [.int x37, .int s8.2.1, .ref (ad b38)]) (by rw [va_some ho38]) ?_
              obtain ⟨hvc, hF⟩ := chk_some hF
              refine va_iast hx hb hK hP hD hS b38 1 (wld_i ct ad G y35.1 hc38 hk38) rfl hvc dX5_levels_136 (fun H locs hP hD hS => ?_)
              obtain ⟨M39, eM39, hF⟩ := ltt_some hF
              rw [set_i ct ad G y35.1 hc38 hk38, ← eM39] at hP hD
              refine lv_goto (tgt := 221) hx hb dX5_levels_137 (by decide) ?_
              obtain rfl := Option.some.inj hF
              exact J13 _ _ _ hP hD hS (lv_sub hl [0, 1, 2, 3, 4, 5, 6, 7, 8, 9] rfl)
        clear hF
        have hF := hy6
        clear hy6
        refine lv_icmp_le (tgt := 99) hx hb dX5_levels_86 (by decide) (fun c40 => ?_) (fun c40 => ?_)
        · rw [if_pos c40] at hF
          refine lv_iconst (v := (0 : Int32)) hx hb dX5_levels_99 (by decide) ?_
          obtain rfl := Option.some.inj hF
          exact J6 _ _ _ hP hD hS (lv_sub hl [0, 1, 2, 3, 4, 5, 6, 7] rfl)
        · rw [if_neg c40] at hF
          refine lv_iload hx hb dX5_levels_89 (lv_at hl 0 rfl) ?_
          refine lv_iconst (v := (3 : Int32)) hx hb dX5_levels_91 (by decide) ?_
          obtain ⟨y41, hy41, hF⟩ := bnd_some hF
          have J41 : ∀ (H : Heap) (locs : List Loc) (ls : Array Slot), va_P D classes (wld ct ad G y5) H → va_D A (wld ct ad G y5) → va_S A s.heap H locs → lv_has ls 10 [(7, .int x3), (6, .int x2), (5, .int y1.1), (0, .ref (ad a)), (1, .int p0), (2, .int p1), (3, va_re ad p2), (4, .int p3)] → W p l e (headSpec wuX5_levels ({ frames := 3, cells := 0, slots := 0, locals := 79 })).room s m ([.ref (ad a), .int p0, .int p1, va_re ad p2, .int p3] : List Value).toArray below meth c H locs 0 0 (MQ below (va_Qi (fun (q : Int32) (_ : Unit) => q = y.2) (fun _ t => kE D ct ad G A y.1 t) A) ([.ref (ad a), .int p0, .int p1, va_re ad p2, .int p3] : List Value).toArray s 0 0 A) (F0 m 100 ls [.int y41]) := by
            intro H locs ls hP hD hS hl
            obtain rfl := Option.some.inj hF
            exact J6 _ _ _ hP hD hS (lv_sub hl [0, 1, 2, 3, 4, 5, 6, 7] rfl)
          clear hF
          have hF := hy41
          clear hy41
          refine lv_icmp_ge (tgt := 99) hx hb dX5_levels_92 (by decide) (fun c42 => ?_) (fun c42 => ?_)
          · rw [if_pos c42] at hF
            refine lv_iconst (v := (0 : Int32)) hx hb dX5_levels_99 (by decide) ?_
            obtain rfl := Option.some.inj hF
            exact J41 _ _ _ hP hD hS (lv_sub hl [0, 1, 2, 3, 4, 5, 6, 7] rfl)
          · rw [if_neg c42] at hF
            refine lv_iconst (v := (1 : Int32)) hx hb dX5_levels_95 (by decide) ?_
            refine lv_goto (tgt := 100) hx hb dX5_levels_96 (by decide) ?_
            obtain rfl := Option.some.inj hF
            exact J41 _ _ _ hP hD hS (lv_sub hl [0, 1, 2, 3, 4, 5, 6, 7] rfl)
      clear hF
      have hF := hy5
      clear hy5
      refine lv_icmp_le (tgt := 82) hx hb dX5_levels_74 (by decide) (fun c43 => ?_) (fun c43 => ?_)
      · rw [if_pos c43] at hF
        obtain rfl := Option.some.inj hF
        exact J5 _ _ _ hP hD hS (lv_sub hl [0, 1, 2, 3, 4, 5, 6, 7] rfl)
      · rw [if_neg c43] at hF
        refine lv_aload_n hx hb dX5_levels_77 rfl (lv_at hl 3 rfl) ?_
        refine lv_iconst (v := (4 : Int32)) hx hb dX5_levels_78 (by decide) ?_
        cases hF
    clear hF
    have hF := hy4
    clear hy4
    refine lv_icmp_gt (tgt := 77) hx hb dX5_levels_68 (by decide) (fun c44 => ?_) (fun c44 => ?_)
    · rw [if_pos c44] at hF
      refine lv_aload_n hx hb dX5_levels_77 rfl (lv_at hl 3 rfl) ?_
      refine lv_iconst (v := (4 : Int32)) hx hb dX5_levels_78 (by decide) ?_
      cases hF
    · rw [if_neg c44] at hF
      obtain rfl := Option.some.inj hF
      exact J4 _ _ _ hP hD hS (lv_sub hl [0, 1, 2, 3, 4, 5, 6, 7] rfl)
  clear hF
  have hF := hy1
  clear hy1
  refine lv_icmp_ne (tgt := 34) hx hb dX5_levels_2 (by decide) (fun c45 => ?_) (fun c45 => ?_)
  · rw [if_neg c45] at hF
    refine lv_aload_n hx hb dX5_levels_34 rfl (lv_at hl 0 rfl) ?_
    refine lv_bipush (v := (11 : Int32)) hx hb dX5_levels_35 (by decide) ?_
    refine lv_iload_n hx hb dX5_levels_37 rfl (lv_at hl 1 rfl) ?_
    refine lv_iconst (v := (4 : Int32)) hx hb dX5_levels_38 (by decide) ?_
    obtain ⟨y46, hy46, hF⟩ := bnd_some hF
    have J46 : ∀ (H : Heap) (locs : List Loc) (ls : Array Slot), va_P D classes (wld ct ad G M) H → va_D A (wld ct ad G M) → va_S A s.heap H locs → lv_has ls 10 [(0, .ref (ad a)), (1, .int p0), (2, .int p1), (3, va_re ad p2), (4, .int p3)] → W p l e (headSpec wuX5_levels ({ frames := 3, cells := 0, slots := 0, locals := 79 })).room s m ([.ref (ad a), .int p0, .int p1, va_re ad p2, .int p3] : List Value).toArray below meth c H locs 0 0 (MQ below (va_Qi (fun (q : Int32) (_ : Unit) => q = y.2) (fun _ t => kE D ct ad G A y.1 t) A) ([.ref (ad a), .int p0, .int p1, va_re ad p2, .int p3] : List Value).toArray s 0 0 A) (F0 m 47 ls [.int y46, .int (11 : Int32), .ref (ad a)]) := by
      intro H locs ls hP hD hS hl
      obtain ⟨y47, hy47, hF⟩ := bnd_some hF
      have hf9 := wA_in hD hA9 hS
      refine va_calli (va_runV (As := [.int (11 : Int32), .int y46]) (rest := []) ⟨hx, hb, hml, hown, hts⟩ (kX5_code l D ct ad Z G M H.size a ((11 : Int32)) y46 y47 hc hk hy47) (cwV 2 hts gX5_levels_X5_code rfl rfl rfl (by decide +kernel) ⟨Nat.le_of_ble_eq_true rfl, Nat.le_of_ble_eq_true rfl⟩) ⟨fun a U g mk q => by obtain ⟨q0, q1, qP, qK, qD, qZ, qN⟩ := q; exact ⟨q0, q1, qP, va_K.moved (u := U) (U := U.calling g mk a) (Vm.Alike.refl U.vm) qK, qD, sF.moved (u := U) (U := U.calling g mk a) (Vm.Alike.refl U.vm) qZ, nF.same rfl qN⟩, va_recv hK hP (ci := 5) (q0 := a) rfl (wld_o ct ad G M hc hk (by decide)), fun U hU hW => ⟨rfl, by rw [hU], by rw [hU]; exact hP, va_K.moved hW.alike hK, hD.weaken (fun _ _ _ _ => trivial), by rw [hU]; exact ((hZ.kept hS.2.1).narrow hf9).moved hW.alike, hN.warm hW⟩⟩ rfl rfl hl.1 rfl (lv_room (Nat.le_of_ble_eq_true rfl)) dX5_levels_47 ⟨(Nat.zero_le _), (Nat.zero_le _)⟩) hS (fun q _ h => hf9 q h) hf9 (fun r u t H locs ht hvm hw hB hz1 hk1 hS => ?_)
      obtain ⟨hP, hK9, hD9⟩ := hB
      rw [ht] at hP
      try dsimp only at hw
      subst hw
      have hD := hD9.weaken (fun _ q _ h => hf9 q.1 h)
      refine lv_istore (lv' := [(5, .int y47.2), (0, .ref (ad a)), (1, .int p0), (2, .int p1), (3, va_re ad p2), (4, .int p3)]) hx hb dX5_levels_50 hl (by decide) rfl (fun ls hl => ?_)
      obtain rfl := Option.some.inj hF
      exact J1 _ _ _ hP hD hS (lv_sub hl [0, 1, 2, 3, 4, 5] rfl)
    clear hF
    have hF := hy46
    clear hy46
    refine lv_icmp_ne (tgt := 46) hx hb dX5_levels_39 (by decide) (fun c48 => ?_) (fun c48 => ?_)
    · rw [if_neg c48] at hF
      refine lv_iload_n hx hb dX5_levels_46 rfl (lv_at hl 1 rfl) ?_
      obtain rfl := Option.some.inj hF
      exact J46 _ _ _ hP hD hS (lv_sub hl [0, 1, 2, 3, 4] rfl)
    · rw [if_pos c48] at hF
      refine lv_iconst (v := (3 : Int32)) hx hb dX5_levels_42 (by decide) ?_
      refine lv_goto (tgt := 47) hx hb dX5_levels_43 (by decide) ?_
      obtain rfl := Option.some.inj hF
      exact J46 _ _ _ hP hD hS (lv_sub hl [0, 1, 2, 3, 4] rfl)
  · rw [if_pos c45] at hF
    refine lv_aload_n hx hb dX5_levels_5 rfl (lv_at hl 0 rfl) ?_
    refine lv_bipush (v := (11 : Int32)) hx hb dX5_levels_6 (by decide) ?_
    refine lv_bipush (v := (6 : Int32)) hx hb dX5_levels_8 (by decide) ?_
    obtain ⟨y49, hy49, hF⟩ := bnd_some hF
    have hf9 := wA_in hD hA9 hS
    refine va_calli (va_runV (As := [.int (11 : Int32), .int (6 : Int32)]) (rest := []) ⟨hx, hb, hml, hown, hts⟩ (kX5_fixed l D ct ad Z G M s.heap.size a ((11 : Int32)) ((6 : Int32)) y49 hc hk hy49) (cwV 2 hts gX5_levels_X5_fixed rfl rfl rfl (by decide +kernel) ⟨Nat.le_of_ble_eq_true rfl, Nat.le_of_ble_eq_true rfl⟩) ⟨fun a U g mk q => by obtain ⟨q0, q1, qP, qK, qD, qZ, qN⟩ := q; exact ⟨q0, q1, qP, va_K.moved (u := U) (U := U.calling g mk a) (Vm.Alike.refl U.vm) qK, qD, sF.moved (u := U) (U := U.calling g mk a) (Vm.Alike.refl U.vm) qZ, nF.same rfl qN⟩, va_recv hK hP (ci := 5) (q0 := a) rfl (wld_o ct ad G M hc hk (by decide)), fun U hU hW => ⟨rfl, by rw [hU], by rw [hU]; exact hP, va_K.moved hW.alike hK, hD.weaken (fun _ _ _ _ => trivial), by rw [hU]; exact ((hZ.kept hS.2.1).narrow hf9).moved hW.alike, hN.warm hW⟩⟩ rfl rfl hl.1 rfl (lv_room (Nat.le_of_ble_eq_true rfl)) dX5_levels_10 ⟨(Nat.zero_le _), (Nat.zero_le _)⟩) hS (fun q _ h => hf9 q h) hf9 (fun r u t H locs ht hvm hw hB hz1 hk1 hS => ?_)
    obtain ⟨hP, hK9, hD9⟩ := hB
    rw [ht] at hP
    try dsimp only at hw
    subst hw
    have hD := hD9.weaken (fun _ q _ h => hf9 q.1 h)
    refine lv_istore (lv' := [(6, .int y49.2), (0, .ref (ad a)), (1, .int p0), (2, .int p1), (3, va_re ad p2), (4, .int p3)]) hx hb dX5_levels_13 hl (by decide) rfl (fun ls hl => ?_)
    refine lv_iload hx hb dX5_levels_15 (lv_at hl 0 rfl) ?_
    refine lv_iconst (v := (3 : Int32)) hx hb dX5_levels_17 (by decide) ?_
    obtain ⟨y50, hy50, hF⟩ := bnd_some hF
    have J50 : ∀ (H : Heap) (locs : List Loc) (ls : Array Slot), va_P D classes (wld ct ad G y49.1) H → va_D A (wld ct ad G y49.1) → va_S A s.heap H locs → lv_has ls 10 [(6, .int y49.2), (0, .ref (ad a)), (1, .int p0), (2, .int p1), (3, va_re ad p2), (4, .int p3)] → W p l e (headSpec wuX5_levels ({ frames := 3, cells := 0, slots := 0, locals := 79 })).room s m ([.ref (ad a), .int p0, .int p1, va_re ad p2, .int p3] : List Value).toArray below meth c H locs 0 0 (MQ below (va_Qi (fun (q : Int32) (_ : Unit) => q = y.2) (fun _ t => kE D ct ad G A y.1 t) A) ([.ref (ad a), .int p0, .int p1, va_re ad p2, .int p3] : List Value).toArray s 0 0 A) (F0 m 29 ls [.int y50]) := by
      intro H locs ls hP hD hS hl
      refine lv_istore (lv' := [(5, .int y50), (6, .int y49.2), (0, .ref (ad a)), (1, .int p0), (2, .int p1), (3, va_re ad p2), (4, .int p3)]) hx hb dX5_levels_29 hl (by decide) rfl (fun ls hl => ?_)
      refine lv_goto (tgt := 52) hx hb dX5_levels_31 (by decide) ?_
      obtain rfl := Option.some.inj hF
      exact J1 _ _ _ hP hD hS (lv_sub hl [0, 2, 3, 4, 5, 6] rfl)
    clear hF
    have hF := hy50
    clear hy50
    refine lv_icmp_ne (tgt := 25) hx hb dX5_levels_18 (by decide) (fun c51 => ?_) (fun c51 => ?_)
    · rw [if_neg c51] at hF
      refine lv_iload hx hb dX5_levels_25 (lv_at hl 0 rfl) ?_
      refine lv_iconst (v := (4 : Int32)) hx hb dX5_levels_27 (by decide) ?_
      refine lv_iadd hx hb dX5_levels_28 ?_
      obtain ⟨x52, ex52, hF⟩ := ltt_some hF
      refine lv_topi (fun zx52 ezx52 => ?_)
      obtain rfl : x52 = zx52 := ex52.trans ezx52.symm
      obtain rfl := Option.some.inj hF
      exact J50 _ _ _ hP hD hS (lv_sub hl [0, 1, 2, 3, 4, 5] rfl)
    · rw [if_pos c51] at hF
      refine lv_iconst (v := (0 : Int32)) hx hb dX5_levels_21 (by decide) ?_
      refine lv_goto (tgt := 29) hx hb dX5_levels_22 (by decide) ?_
      obtain rfl := Option.some.inj hF
      exact J50 _ _ _ hP hD hS (lv_sub hl [0, 1, 2, 3, 4, 5] rfl)
set_option maxRecDepth 20000 in
theorem gX6_fillColours_X9_levelAt : GoodIn wuX6_fillColours (va_wsS RX6 237 yX9_levelAt wuX9_levelAt) := gu_S mw_2080 mw_1789 mw_171 mw_1790
set_option maxRecDepth 20000 in
set_option maxRecDepth 20000 in
theorem gX6_fillColours_X6_turnFour : GoodIn wuX6_fillColours (wsV RX6 256 RX6 yX6_turnFour wuX6_turnFour) := gu_V mw_2143 mw_2145 mw_90 mw_172 mw_2146
set_option maxRecDepth 20000 in
set_option maxRecDepth 20000 in
theorem gX6_fillColours_X6_unfold : GoodIn wuX6_fillColours (wsV RX6 240 RX6 yX6_unfold wuX6_unfold) := gu_V mw_2089 mw_2091 mw_82 mw_172 mw_2092
set_option maxRecDepth 20000 in
set_option maxRecDepth 20000 in
theorem gX6_fillColours_X6_normAt : GoodIn wuX6_fillColours (va_wsS RX6 227 yX6_normAt wuX6_normAt) := gu_S mw_2096 mw_2097 mw_172 mw_2098
set_option maxRecDepth 20000 in
set_option maxRecDepth 20000 in
theorem gX6_fillColours_X6_colourAt : GoodIn wuX6_fillColours (va_wsS RX6 206 yX6_colourAt wuX6_colourAt) := gu_S mw_1985 mw_1986 mw_172 mw_1987
set_option maxRecDepth 20000 in
set_option maxRecDepth 20000 in
theorem gX6_fillColours_X6_fillPiece : GoodIn wuX6_fillColours (wsV RX6 244 RX6 yX6_fillPiece wuX6_fillPiece) := gu_V mw_2099 mw_2101 mw_83 mw_172 mw_2102
theorem dX6_fillColours_0 : decode cX6_fillColours 0 = .ok (.iconst 1, 1) := by decide +kernel
theorem dX6_fillColours_1 : decode cX6_fillColours 1 = .ok (.istore 4, 2) := by decide +kernel
theorem dX6_fillColours_3 : decode cX6_fillColours 3 = .ok (.iload 4, 2) := by decide +kernel
theorem dX6_fillColours_5 : decode cX6_fillColours 5 = .ok (.iconst 3, 1) := by decide +kernel
theorem dX6_fillColours_6 : decode cX6_fillColours 6 = .ok (.if_icmp .ge 177, 3) := by decide +kernel
theorem dX6_fillColours_9 : decode cX6_fillColours 9 = .ok (.aload_n 1, 1) := by decide +kernel
theorem dX6_fillColours_10 : decode cX6_fillColours 10 = .ok (.getfield 234, 3) := by decide +kernel
theorem dX6_fillColours_13 : decode cX6_fillColours 13 = .ok (.iload_n 2, 1) := by decide +kernel
theorem dX6_fillColours_14 : decode cX6_fillColours 14 = .ok (.bipush 16, 2) := by decide +kernel
theorem dX6_fillColours_16 : decode cX6_fillColours 16 = .ok (.iload 4, 2) := by decide +kernel
theorem dX6_fillColours_18 : decode cX6_fillColours 18 = .ok (.iadd, 1) := by decide +kernel
theorem dX6_fillColours_19 : decode cX6_fillColours 19 = .ok (.invokestatic 237, 3) := by decide +kernel
theorem dX6_fillColours_22 : decode cX6_fillColours 22 = .ok (.aload_n 0, 1) := by decide +kernel
theorem dX6_fillColours_23 : decode cX6_fillColours 23 = .ok (.getfield 33, 3) := by decide +kernel
theorem dX6_fillColours_26 : decode cX6_fillColours 26 = .ok (.iconst 0, 1) := by decide +kernel
theorem dX6_fillColours_27 : decode cX6_fillColours 27 = .ok (.iconst 4, 1) := by decide +kernel
theorem dX6_fillColours_28 : decode cX6_fillColours 28 = .ok (.invokestatic 250, 3) := by decide +kernel
theorem dX6_fillColours_31 : decode cX6_fillColours 31 = .ok (.aload_n 0, 1) := by decide +kernel
theorem dX6_fillColours_32 : decode cX6_fillColours 32 = .ok (.invokevirtual 256, 3) := by decide +kernel
theorem dX6_fillColours_35 : decode cX6_fillColours 35 = .ok (.iconst 0, 1) := by decide +kernel
theorem dX6_fillColours_36 : decode cX6_fillColours 36 = .ok (.istore 5, 2) := by decide +kernel
theorem dX6_fillColours_38 : decode cX6_fillColours 38 = .ok (.iload 5, 2) := by decide +kernel
theorem dX6_fillColours_40 : decode cX6_fillColours 40 = .ok (.iconst 4, 1) := by decide +kernel
theorem dX6_fillColours_41 : decode cX6_fillColours 41 = .ok (.if_icmp .ge 136, 3) := by decide +kernel
theorem dX6_fillColours_44 : decode cX6_fillColours 44 = .ok (.iload 5, 2) := by decide +kernel
theorem dX6_fillColours_46 : decode cX6_fillColours 46 = .ok (.iconst 2, 1) := by decide +kernel
theorem dX6_fillColours_47 : decode cX6_fillColours 47 = .ok (.irem, 1) := by decide +kernel
theorem dX6_fillColours_48 : decode cX6_fillColours 48 = .ok (.iconst 4, 1) := by decide +kernel
theorem dX6_fillColours_49 : decode cX6_fillColours 49 = .ok (.imul, 1) := by decide +kernel
theorem dX6_fillColours_50 : decode cX6_fillColours 50 = .ok (.istore 6, 2) := by decide +kernel
theorem dX6_fillColours_52 : decode cX6_fillColours 52 = .ok (.iload 5, 2) := by decide +kernel
theorem dX6_fillColours_54 : decode cX6_fillColours 54 = .ok (.iconst 2, 1) := by decide +kernel
theorem dX6_fillColours_55 : decode cX6_fillColours 55 = .ok (.idiv, 1) := by decide +kernel
theorem dX6_fillColours_56 : decode cX6_fillColours 56 = .ok (.iconst 4, 1) := by decide +kernel
theorem dX6_fillColours_57 : decode cX6_fillColours 57 = .ok (.imul, 1) := by decide +kernel
theorem dX6_fillColours_58 : decode cX6_fillColours 58 = .ok (.istore 7, 2) := by decide +kernel
theorem dX6_fillColours_60 : decode cX6_fillColours 60 = .ok (.aload_n 0, 1) := by decide +kernel
theorem dX6_fillColours_61 : decode cX6_fillColours 61 = .ok (.aload_n 1, 1) := by decide +kernel
theorem dX6_fillColours_62 : decode cX6_fillColours 62 = .ok (.getfield 234, 3) := by decide +kernel
theorem dX6_fillColours_65 : decode cX6_fillColours 65 = .ok (.iload_n 2, 1) := by decide +kernel
theorem dX6_fillColours_66 : decode cX6_fillColours 66 = .ok (.bipush 15, 2) := by decide +kernel
theorem dX6_fillColours_68 : decode cX6_fillColours 68 = .ok (.iconst 4, 1) := by decide +kernel
theorem dX6_fillColours_69 : decode cX6_fillColours 69 = .ok (.iload 4, 2) := by decide +kernel
theorem dX6_fillColours_71 : decode cX6_fillColours 71 = .ok (.imul, 1) := by decide +kernel
theorem dX6_fillColours_72 : decode cX6_fillColours 72 = .ok (.iadd, 1) := by decide +kernel
theorem dX6_fillColours_73 : decode cX6_fillColours 73 = .ok (.iload 5, 2) := by decide +kernel
theorem dX6_fillColours_75 : decode cX6_fillColours 75 = .ok (.iadd, 1) := by decide +kernel
theorem dX6_fillColours_76 : decode cX6_fillColours 76 = .ok (.invokestatic 237, 3) := by decide +kernel
theorem dX6_fillColours_79 : decode cX6_fillColours 79 = .ok (.iconst 1, 1) := by decide +kernel
theorem dX6_fillColours_80 : decode cX6_fillColours 80 = .ok (.iload_n 3, 1) := by decide +kernel
theorem dX6_fillColours_81 : decode cX6_fillColours 81 = .ok (.invokevirtual 240, 3) := by decide +kernel
theorem dX6_fillColours_84 : decode cX6_fillColours 84 = .ok (.aload_n 0, 1) := by decide +kernel
theorem dX6_fillColours_85 : decode cX6_fillColours 85 = .ok (.getfield 30, 3) := by decide +kernel
theorem dX6_fillColours_88 : decode cX6_fillColours 88 = .ok (.iconst 0, 1) := by decide +kernel
theorem dX6_fillColours_89 : decode cX6_fillColours 89 = .ok (.aload_n 0, 1) := by decide +kernel
theorem dX6_fillColours_90 : decode cX6_fillColours 90 = .ok (.getfield 33, 3) := by decide +kernel
theorem dX6_fillColours_93 : decode cX6_fillColours 93 = .ok (.iload 5, 2) := by decide +kernel
theorem dX6_fillColours_95 : decode cX6_fillColours 95 = .ok (.iaload, 1) := by decide +kernel
theorem dX6_fillColours_96 : decode cX6_fillColours 96 = .ok (.getstatic 224, 3) := by decide +kernel
theorem dX6_fillColours_99 : decode cX6_fillColours 99 = .ok (.iload_n 3, 1) := by decide +kernel
theorem dX6_fillColours_100 : decode cX6_fillColours 100 = .ok (.iconst 0, 1) := by decide +kernel
theorem dX6_fillColours_101 : decode cX6_fillColours 101 = .ok (.iconst 0, 1) := by decide +kernel
theorem dX6_fillColours_102 : decode cX6_fillColours 102 = .ok (.invokestatic 227, 3) := by decide +kernel
theorem dX6_fillColours_105 : decode cX6_fillColours 105 = .ok (.iaload, 1) := by decide +kernel
theorem dX6_fillColours_106 : decode cX6_fillColours 106 = .ok (.imul, 1) := by decide +kernel
theorem dX6_fillColours_107 : decode cX6_fillColours 107 = .ok (.iload_n 3, 1) := by decide +kernel
theorem dX6_fillColours_108 : decode cX6_fillColours 108 = .ok (.bipush 6, 2) := by decide +kernel
theorem dX6_fillColours_110 : decode cX6_fillColours 110 = .ok (.idiv, 1) := by decide +kernel
theorem dX6_fillColours_111 : decode cX6_fillColours 111 = .ok (.ishl, 1) := by decide +kernel
theorem dX6_fillColours_112 : decode cX6_fillColours 112 = .ok (.iconst 1, 1) := by decide +kernel
theorem dX6_fillColours_113 : decode cX6_fillColours 113 = .ok (.ishr, 1) := by decide +kernel
theorem dX6_fillColours_114 : decode cX6_fillColours 114 = .ok (.iastore, 1) := by decide +kernel
theorem dX6_fillColours_115 : decode cX6_fillColours 115 = .ok (.aload_n 0, 1) := by decide +kernel
theorem dX6_fillColours_116 : decode cX6_fillColours 116 = .ok (.aload_n 1, 1) := by decide +kernel
theorem dX6_fillColours_117 : decode cX6_fillColours 117 = .ok (.getfield 46, 3) := by decide +kernel
theorem dX6_fillColours_120 : decode cX6_fillColours 120 = .ok (.getfield 121, 3) := by decide +kernel
theorem dX6_fillColours_123 : decode cX6_fillColours 123 = .ok (.iload 4, 2) := by decide +kernel
theorem dX6_fillColours_125 : decode cX6_fillColours 125 = .ok (.aaload, 1) := by decide +kernel
theorem dX6_fillColours_126 : decode cX6_fillColours 126 = .ok (.aload_n 1, 1) := by decide +kernel
theorem dX6_fillColours_127 : decode cX6_fillColours 127 = .ok (.getfield 46, 3) := by decide +kernel
theorem dX6_fillColours_130 : decode cX6_fillColours 130 = .ok (.iload_n 2, 1) := by decide +kernel
theorem dX6_fillColours_131 : decode cX6_fillColours 131 = .ok (.iload 6, 2) := by decide +kernel
theorem dX6_fillColours_133 : decode cX6_fillColours 133 = .ok (.iload 7, 2) := by decide +kernel
theorem dX6_fillColours_135 : decode cX6_fillColours 135 = .ok (.invokestatic 206, 3) := by decide +kernel
theorem dX6_fillColours_138 : decode cX6_fillColours 138 = .ok (.bipush 8, 2) := by decide +kernel
theorem dX6_fillColours_140 : decode cX6_fillColours 140 = .ok (.aload_n 1, 1) := by decide +kernel
theorem dX6_fillColours_141 : decode cX6_fillColours 141 = .ok (.getfield 46, 3) := by decide +kernel
theorem dX6_fillColours_144 : decode cX6_fillColours 144 = .ok (.getfield 83, 3) := by decide +kernel
theorem dX6_fillColours_147 : decode cX6_fillColours 147 = .ok (.imul, 1) := by decide +kernel
theorem dX6_fillColours_148 : decode cX6_fillColours 148 = .ok (.sipush 192, 3) := by decide +kernel
theorem dX6_fillColours_151 : decode cX6_fillColours 151 = .ok (.bipush 64, 2) := by decide +kernel
theorem dX6_fillColours_153 : decode cX6_fillColours 153 = .ok (.iload 4, 2) := by decide +kernel
theorem dX6_fillColours_155 : decode cX6_fillColours 155 = .ok (.imul, 1) := by decide +kernel
theorem dX6_fillColours_156 : decode cX6_fillColours 156 = .ok (.iadd, 1) := by decide +kernel
theorem dX6_fillColours_157 : decode cX6_fillColours 157 = .ok (.bipush 8, 2) := by decide +kernel
theorem dX6_fillColours_159 : decode cX6_fillColours 159 = .ok (.iload 7, 2) := by decide +kernel
theorem dX6_fillColours_161 : decode cX6_fillColours 161 = .ok (.imul, 1) := by decide +kernel
theorem dX6_fillColours_162 : decode cX6_fillColours 162 = .ok (.iadd, 1) := by decide +kernel
theorem dX6_fillColours_163 : decode cX6_fillColours 163 = .ok (.iload 6, 2) := by decide +kernel
theorem dX6_fillColours_165 : decode cX6_fillColours 165 = .ok (.iadd, 1) := by decide +kernel
theorem dX6_fillColours_166 : decode cX6_fillColours 166 = .ok (.bipush 8, 2) := by decide +kernel
theorem dX6_fillColours_168 : decode cX6_fillColours 168 = .ok (.invokevirtual 244, 3) := by decide +kernel
theorem dX6_fillColours_171 : decode cX6_fillColours 171 = .ok (.iinc 5 1, 3) := by decide +kernel
theorem dX6_fillColours_174 : decode cX6_fillColours 174 = .ok (.goto (-136), 3) := by decide +kernel
theorem dX6_fillColours_177 : decode cX6_fillColours 177 = .ok (.iinc 4 1, 3) := by decide +kernel
theorem dX6_fillColours_180 : decode cX6_fillColours 180 = .ok (.goto (-177), 3) := by decide +kernel
theorem dX6_fillColours_183 : decode cX6_fillColours 183 = .ok (.return_, 1) := by decide +kernel
def FX6_fillColours (G : GG) (M : DD) (a : Nat) (p0 : Option Nat) (p1 : Int32) (p2 : Int32) : Option (DD) :=
  bnd (itr (fun (s2 : Int32 × DD) => ((if ((3 : Int32)) ≤ s2.1 then (some (.inr (s2.1, s2.2))) else
  (dr G 9 p0 fun b6 =>
  ltt ((((16 : Int32)) + s2.1)) fun x7 =>
  bnd (FX9_levelAt G s2.2 p1 x7) fun y8 =>
  dr G 13 ((s2.2.2 b6 9)) fun b9 =>
  dr G 13 ((y8.1.2 a 7)) fun b10 =>
  chk (¬ y8.2 < 0 ∧ ¬ ((0 : Int32)) < 0 ∧ ¬ ((4 : Int32)) < 0 ∧ y8.2.toNatClampNeg + ((4 : Int32)).toNatClampNeg ≤ G.2.2 b9 ∧ ((0 : Int32)).toNatClampNeg + ((4 : Int32)).toNatClampNeg ≤ G.2.2 b10) <|
  ltt (rI y8.1 b10 (va_cpy (y8.1.1 b9) (y8.1.1 b10) y8.2.toNatClampNeg ((0 : Int32)).toNatClampNeg ((4 : Int32)).toNatClampNeg)) fun M11 =>
  bnd (FX6_turnFour G M11 a) fun y12 =>
  bnd (itr (fun (s14 : Int32 × DD) => ((if ((4 : Int32)) ≤ s14.1 then (some (.inr (s14.1, s14.2))) else
  (ltt (s14.1 - s14.1 / ((2 : Int32)) * ((2 : Int32))) fun x19 =>
  ltt ((x19 * ((4 : Int32)))) fun x20 =>
  ltt (s14.1 / ((2 : Int32))) fun x21 =>
  ltt ((x21 * ((4 : Int32)))) fun x22 =>
  ltt ((((4 : Int32)) * s2.1)) fun x23 =>
  ltt ((((15 : Int32)) + x23)) fun x24 =>
  ltt ((x24 + s14.1)) fun x25 =>
  bnd (FX9_levelAt G s14.2 p1 x25) fun y26 =>
  bnd (FX6_unfold G y26.1 a ((s14.2.2 b6 9)) y26.2 ((1 : Int32)) p2) fun y27 =>
  dr G 13 ((y27.2 a 7)) fun b28 =>
  chk (¬ (s14.1 < 0 ∨ G.2.2 b28 ≤ s14.1.toNatClampNeg)) <|
  ltt (y27.1 b28 s14.1.toNatClampNeg) fun x29 =>
  bnd (FX6_normAt G y27 p2 ((0 : Int32)) ((0 : Int32))) fun y30 =>
  chk (¬ (y30.2 < 0 ∨ 18 ≤ y30.2.toNatClampNeg)) <|
  ltt ((sT 13).getD y30.2.toNatClampNeg 0) fun x31 =>
  ltt ((x29 * x31)) fun x32 =>
  ltt (p2 / ((6 : Int32))) fun x33 =>
  ltt ((x32 <<< (x33 &&& 31))) fun x34 =>
  ltt ((x34 >>> (((1 : Int32)) &&& 31))) fun x35 =>
  dr G 13 ((y27.2 a 6)) fun b36 =>
  chk (¬ (((0 : Int32)) < 0 ∨ G.2.2 b36 ≤ ((0 : Int32)).toNatClampNeg)) <|
  ltt (uI y30.1 b36 ((0 : Int32)).toNatClampNeg x35) fun M37 =>
  dr G 4 ((M37.2 b6 0)) fun b38 =>
  dr G 15 ((M37.2 b38 4)) fun b39 =>
  chk (¬ (s2.1 < 0 ∨ G.2.2 b39 ≤ s2.1.toNatClampNeg)) <|
  bnd (FX6_colourAt G M37 ((M37.2 b6 0)) p1 x20 x22) fun y40 =>
  dr G 4 ((y40.1.2 b6 0)) fun b41 =>
  ltt (y40.1.1 b41 1) fun x42 =>
  ltt ((((8 : Int32)) * x42)) fun x43 =>
  ltt ((((64 : Int32)) * s2.1)) fun x44 =>
  ltt ((((192 : Int32)) + x44)) fun x45 =>
  ltt ((((8 : Int32)) * x22)) fun x46 =>
  ltt ((x45 + x46)) fun x47 =>
  ltt ((x47 + x20)) fun x48 =>
  bnd (FX6_fillPiece G y40.1 a ((M37.2 b39 s2.1.toNatClampNeg)) y40.2 x43 x48 ((8 : Int32))) fun y49 =>
  ltt (s14.1 + (1 : Int32)) fun x50 =>
  some (.inl (x50, y49)))) : Option ((Int32 × DD) ⊕ (Int32 × DD)))) 1000000 ((0 : Int32), y12)) fun (y13 : Int32 × DD) =>
  ltt (s2.1 + (1 : Int32)) fun x16 =>
  some (.inl (x16, y13.2)))) : Option ((Int32 × DD) ⊕ (Int32 × DD)))) 1000000 ((1 : Int32), M)) fun (y1 : Int32 × DD) =>
  some y1.2
set_option maxHeartbeats 4000000 in
set_option maxRecDepth 100000 in
theorem kX6_fillColours (l : Launch) (D : va_G) (ct : CT) (ad : Nat → Nat) (Z : Nat → Nat) (G : GG) (M : DD) (sz : Nat) (a : Nat) (p0 : Option Nat) (p1 : Int32) (p2 : Int32) (y : DD) (hc : a < G.1) (hk : G.2.1 a = 6) (hF : FX6_fillColours G M a p0 p1 p2 = some y) : Met l yX6_fillColours wuX6_fillColours ({ frames := 2, cells := 0, slots := 0, locals := 80 }) (va_Pc [.ref (ad a), va_re ad p0, .int p1, .int p2] (kB D ct ad Z G M sz)) (va_Qv (fun (_ : Unit) => True) (fun _ t => kE D ct ad G (wA ad G sz) y t) (wA ad G sz)) 0 0 (wA ad G sz) := by
  refine Met.ofW (cc := cX6_fillColours) (maxL := 8) (ret := none) (by decide) rfl ?_
  intro p e s m args below meth c s₁ B hml hv
  obtain ⟨rfl, hsz, hP, hK, hD0, hZ, hN⟩ := hv
  have hx := B.exec
  have hb := B.bytes
  have hr := B.returns
  have hts := atoms_spec (ws := wuX6_fillColours) B.pre
  have hown : s.vm.findClass RX6 = some m.cls := findClass_of_methodNamed B.named
  have hlocks := B.notSynchronized
  subst hsz
  have hD := wD_self (sz := s.heap.size) hD0
  have hA9 : ∀ q, s.heap.size ≤ q → wA ad G s.heap.size q := fun q h => Or.inr h
  generalize hAe : wA ad G s.heap.size = A at hD hA9 hZ ⊢
  have hS : va_S A s.heap s.heap [] := va_S.rf
  have hl := lv_entry ([.ref (ad a), va_re ad p0, .int p1, .int p2]) (n := 8) (by cases p0 <;> exact Nat.le_of_ble_eq_true rfl)
  rw [lg_entry_eq]
  generalize (lg_sl ([.ref (ad a), va_re ad p0, .int p1, .int p2]) ++ List.replicate (8 - (lg_sl ([.ref (ad a), va_re ad p0, .int p1, .int p2])).length) Slot.unset).toArray = ls at hl ⊢
  have hl : lv_has ls 8 [(0, .ref (ad a)), (1, va_re ad p0), (2, .int p1), (3, .int p2)] := by have e9 : lv_args 0 [.ref (ad a), va_re ad p0, .int p1, .int p2] = [(0, .ref (ad a)), (1, va_re ad p0), (2, .int p1), (3, .int p2)] := (by cases p0 <;> rfl); rw [e9] at hl; exact hl
  unfold FX6_fillColours at hF
  refine lv_iconst (v := (1 : Int32)) hx hb dX6_fillColours_0 (by decide) ?_
  refine lv_istore (lv' := [(4, .int (1 : Int32)), (0, .ref (ad a)), (1, va_re ad p0), (2, .int p1), (3, .int p2)]) hx hb dX6_fillColours_1 hl (by decide) rfl (fun ls hl => ?_)
  obtain ⟨y1, hy1, hF⟩ := bnd_some hF
  have K1 : ∀ (H : Heap) (locs : List Loc) (ls : Array Slot), va_P D classes (wld ct ad G y1.2) H → va_D A (wld ct ad G y1.2) → va_S A s.heap H locs → lv_has ls 8 [(4, .int y1.1), (0, .ref (ad a)), (1, va_re ad p0), (2, .int p1), (3, .int p2)] → W p l e (headSpec wuX6_fillColours ({ frames := 2, cells := 0, slots := 0, locals := 80 })).room s m ([.ref (ad a), va_re ad p0, .int p1, .int p2] : List Value).toArray below meth c H locs 0 0 (MQ below (va_Qv (fun (_ : Unit) => True) (fun _ t => kE D ct ad G A y t) A) ([.ref (ad a), va_re ad p0, .int p1, .int p2] : List Value).toArray s 0 0 A) (F0 m 183 ls []) := by
    intro H locs ls hP hD hS hl
    obtain rfl := Option.some.inj hF
    exact W.vret hx hb hr (fun t ht hW => ⟨⟨(), rfl, trivial, ⟨by rw [ht]; exact hP, va_K.moved hW.alike hK, hD⟩⟩, hS.F ht⟩) hS.2.2 dX6_fillColours_183
  clear hF
  refine itr_rule (fun (s2 : Int32 × DD) => ∀ (H : Heap) (locs : List Loc) (ls : Array Slot), va_P D classes (wld ct ad G s2.2) H → va_D A (wld ct ad G s2.2) → va_S A s.heap H locs → lv_has ls 8 [(4, .int s2.1), (0, .ref (ad a)), (1, va_re ad p0), (2, .int p1), (3, .int p2)] → W p l e (headSpec wuX6_fillColours ({ frames := 2, cells := 0, slots := 0, locals := 80 })).room s m ([.ref (ad a), va_re ad p0, .int p1, .int p2] : List Value).toArray below meth c H locs 0 0 (MQ below (va_Qv (fun (_ : Unit) => True) (fun _ t => kE D ct ad G A y t) A) ([.ref (ad a), va_re ad p0, .int p1, .int p2] : List Value).toArray s 0 0 A) (F0 m 3 ls [])) ?_ _ _ hy1 _ _ _ hP hD hS (lv_sub hl [0, 1, 2, 3, 4] rfl)
  rintro s2 ⟨z4, hF, hwz4⟩ H locs ls hP hD hS hl
  try dsimp only at hF
  refine lv_iload hx hb dX6_fillColours_3 (lv_at hl 0 rfl) ?_
  refine lv_iconst (v := (3 : Int32)) hx hb dX6_fillColours_5 (by decide) ?_
  refine lv_icmp_ge (tgt := 183) hx hb dX6_fillColours_6 (by decide) (fun c5 => ?_) (fun c5 => ?_)
  · rw [if_pos c5] at hF
    obtain rfl := Option.some.inj hF
    subst hwz4
    exact K1 _ _ _ hP hD hS (lv_sub hl [0, 1, 2, 3, 4] rfl)
  · rw [if_neg c5] at hF
    refine lv_aloadq_n hx hb dX6_fillColours_9 rfl (lv_at hl 2 rfl) ?_
    obtain ⟨b6, ho6, hc6, hk6, hF⟩ := dr_some hF
    refine W_st (st' := [.ref (ad b6)]) (by rw [va_some ho6]) ?_
    refine va_get (D := D) (ci := 9) (v := va_re ad (s2.2.2 b6 9)) (C := RX9) (T := TX9) (N := 20) hx hb hts (mus hf_X9) hown hK hP b6 (wld_o ct ad G s2.2 hc6 hk6 (by decide)) rfl 9 (by decide) (hts (.fieldLink RX6 234 "VideoSuite$Work" "level" "[I") (mu mw_456)) (fun _ h9 => h9) rfl dX6_fillColours_10 ?_
    refine lv_iload_n hx hb dX6_fillColours_13 rfl (lv_at hl 3 rfl) ?_
    refine lv_bipush (v := (16 : Int32)) hx hb dX6_fillColours_14 (by decide) ?_
    refine lv_iload hx hb dX6_fillColours_16 (lv_at hl 0 rfl) ?_
    refine lv_iadd hx hb dX6_fillColours_18 ?_
    obtain ⟨x7, ex7, hF⟩ := ltt_some hF
    refine lv_topi (fun zx7 ezx7 => ?_)
    obtain rfl : x7 = zx7 := ex7.trans ezx7.symm
    obtain ⟨y8, hy8, hF⟩ := bnd_some hF
    have hf9 := wA_in hD hA9 hS
    refine va_calli (va_runS (As := [.int p1, .int x7]) (rest := [va_re ad (s2.2.2 b6 9)]) ⟨hx, hb, hml, hown, hts⟩ (kX9_levelAt l D ct ad Z G s2.2 H.size p1 x7 y8 hy8) (va_cwS 2 hts gX6_fillColours_X9_levelAt rfl rfl rfl (by decide +kernel) ⟨Nat.le_of_ble_eq_true rfl, Nat.le_of_ble_eq_true rfl⟩) ⟨fun a U g mk q => by obtain ⟨q0, q1, qP, qK, qD, qZ, qN⟩ := q; exact ⟨q0, q1, qP, va_K.moved (u := U) (U := U.calling g mk a) (Vm.Alike.refl U.vm) qK, qD, sF.moved (u := U) (U := U.calling g mk a) (Vm.Alike.refl U.vm) qZ, nF.same rfl qN⟩, fun U hU hW => ⟨rfl, by rw [hU], by rw [hU]; exact hP, va_K.moved hW.alike hK, hD.weaken (fun _ _ _ _ => trivial), by rw [hU]; exact ((hZ.kept hS.2.1).narrow hf9).moved hW.alike, hN.warm hW⟩⟩ rfl rfl hl.1 rfl (lv_room (by simp only [List.map, va_re_cat]; exact Nat.le_of_ble_eq_true rfl)) dX6_fillColours_19 ⟨(Nat.zero_le _), (Nat.zero_le _)⟩) hS (fun q _ h => hf9 q h) hf9 (fun r u t H locs ht hvm hw hB hz1 hk1 hS => ?_)
    obtain ⟨hP, hK9, hD9⟩ := hB
    rw [ht] at hP
    try dsimp only at hw
    subst hw
    have hD := hD9.weaken (fun _ q _ h => hf9 q.1 h)
    refine lv_aload_n hx hb dX6_fillColours_22 rfl (lv_at hl 1 rfl) ?_
    refine va_get (D := D) (ci := 6) (v := va_re ad (y8.1.2 a 7)) (C := RX6) (T := TX6) (N := 14) hx hb hts (mus hf_X6) hown hK hP a (wld_o ct ad G y8.1 hc hk (by decide)) rfl 7 (by decide) (hts (.fieldLink RX6 33 "VideoSuite$Samples" "even" "[I") (mu mw_543)) (fun _ h9 => h9) rfl dX6_fillColours_23 ?_
    refine lv_iconst (v := (0 : Int32)) hx hb dX6_fillColours_26 (by decide) ?_
    refine lv_iconst (v := (4 : Int32)) hx hb dX6_fillColours_27 (by decide) ?_
    obtain ⟨b9, ho9, hc9, hk9, hF⟩ := dr_some hF
    refine W_st (st' := [.int (4 : Int32), .int (0 : Int32), va_re ad (y8.1.2 a 7), .int y8.2, .ref (ad b9)]) (by rw [va_some ho9]) ?_
    obtain ⟨b10, ho10, hc10, hk10, hF⟩ := dr_some hF
    refine W_st (st' := [.int (4 : Int32), .int (0 : Int32), .ref (ad b10), .int y8.2, .ref (ad b9)]) (by rw [va_some ho10]) ?_
    obtain ⟨hv9, hF⟩ := chk_some hF
    refine va_copyi (ty := .int) hx hb (hml.trans hl.1.symm) hown (hts (.methodLink RX6 250 arraycopyName) (mu mw_1984)) (hts (.native arraycopyName) (mu mw_1093)) (hts (.static arraycopyName) (mu mw_1092)) (hts (.initialized "java/lang/System") (mu mw_181)) hK hP hD hS b9 b10 1 1 (wld_i ct ad G y8.1 hc9 hk9) (wld_i ct ad G y8.1 hc10 hk10) rfl rfl rfl hv9.1 hv9.2.1 hv9.2.2.1 hv9.2.2.2.1 hv9.2.2.2.2 (fun _ _ => rfl) (Nat.le_of_ble_eq_true rfl) (by decide +kernel) dX6_fillColours_28 (fun H locs hP hD hS => ?_)
    obtain ⟨M11, eM11, hF⟩ := ltt_some hF
    rw [set_ri ct ad G y8.1 hc10 hk10, ← eM11] at hP hD
    refine lv_aload_n hx hb dX6_fillColours_31 rfl (lv_at hl 1 rfl) ?_
    obtain ⟨y12, hy12, hF⟩ := bnd_some hF
    have hf9 := wA_in hD hA9 hS
    refine va_callv (va_runV (As := []) (rest := []) ⟨hx, hb, hml, hown, hts⟩ (kX6_turnFour l D ct ad Z G M11 H.size a y12 hc hk hy12) (cwV 0 hts gX6_fillColours_X6_turnFour rfl rfl rfl (by decide +kernel) ⟨Nat.le_of_ble_eq_true rfl, Nat.le_of_ble_eq_true rfl⟩) ⟨fun a U g mk q => by obtain ⟨q0, q1, qP, qK, qD, qZ, qN⟩ := q; exact ⟨q0, q1, qP, va_K.moved (u := U) (U := U.calling g mk a) (Vm.Alike.refl U.vm) qK, qD, sF.moved (u := U) (U := U.calling g mk a) (Vm.Alike.refl U.vm) qZ, nF.same rfl qN⟩, va_recv hK hP (ci := 6) (q0 := a) rfl (wld_o ct ad G M11 hc hk (by decide)), fun U hU hW => ⟨rfl, by rw [hU], by rw [hU]; exact hP, va_K.moved hW.alike hK, hD.weaken (fun _ _ _ _ => trivial), by rw [hU]; exact ((hZ.kept hS.2.1).narrow hf9).moved hW.alike, hN.warm hW⟩⟩ rfl rfl hl.1 rfl (lv_room (Nat.le_of_ble_eq_true rfl)) dX6_fillColours_32 ⟨(Nat.zero_le _), (Nat.zero_le _)⟩) hS (fun q _ h => hf9 q h) hf9 (fun u t H locs ht hvm hw hB hz1 hk1 hS => ?_)
    obtain ⟨hP, hK9, hD9⟩ := hB
    rw [ht] at hP
    have hD := hD9.weaken (fun _ q _ h => hf9 q.1 h)
    refine lv_iconst (v := (0 : Int32)) hx hb dX6_fillColours_35 (by decide) ?_
    refine lv_istore (lv' := [(5, .int (0 : Int32)), (4, .int s2.1), (0, .ref (ad a)), (1, va_re ad p0), (2, .int p1), (3, .int p2)]) hx hb dX6_fillColours_36 hl (by decide) rfl (fun ls hl => ?_)
    obtain ⟨y13, hy13, hF⟩ := bnd_some hF
    have K13 : ∀ (H : Heap) (locs : List Loc) (ls : Array Slot), va_P D classes (wld ct ad G y13.2) H → va_D A (wld ct ad G y13.2) → va_S A s.heap H locs → lv_has ls 8 [(5, .int y13.1), (4, .int s2.1), (0, .ref (ad a)), (1, va_re ad p0), (2, .int p1), (3, .int p2)] → W p l e (headSpec wuX6_fillColours ({ frames := 2, cells := 0, slots := 0, locals := 80 })).room s m ([.ref (ad a), va_re ad p0, .int p1, .int p2] : List Value).toArray below meth c H locs 0 0 (MQ below (va_Qv (fun (_ : Unit) => True) (fun _ t => kE D ct ad G A y t) A) ([.ref (ad a), va_re ad p0, .int p1, .int p2] : List Value).toArray s 0 0 A) (F0 m 177 ls []) := by
      intro H locs ls hP hD hS hl
      obtain ⟨x16, ex16, hF⟩ := ltt_some hF
      refine lv_iinc (v := x16) (lv' := [(4, .int x16), (5, .int y13.1), (0, .ref (ad a)), (1, va_re ad p0), (2, .int p1), (3, .int p2)]) hx hb dX6_fillColours_177 hl (k := 1) rfl (by rw [ex16]; rfl) (by decide) rfl (fun ls hl => ?_)
      refine lv_goto (tgt := 3) hx hb dX6_fillColours_180 (by decide) ?_
      obtain rfl := Option.some.inj hF
      exact hwz4 _ _ _ hP hD hS (lv_sub hl [0, 2, 3, 4, 5] rfl)
    clear hF
    refine itr_rule (fun (s14 : Int32 × DD) => ∀ (H : Heap) (locs : List Loc) (ls : Array Slot), va_P D classes (wld ct ad G s14.2) H → va_D A (wld ct ad G s14.2) → va_S A s.heap H locs → lv_has ls 8 [(5, .int s14.1), (4, .int s2.1), (0, .ref (ad a)), (1, va_re ad p0), (2, .int p1), (3, .int p2)] → W p l e (headSpec wuX6_fillColours ({ frames := 2, cells := 0, slots := 0, locals := 80 })).room s m ([.ref (ad a), va_re ad p0, .int p1, .int p2] : List Value).toArray below meth c H locs 0 0 (MQ below (va_Qv (fun (_ : Unit) => True) (fun _ t => kE D ct ad G A y t) A) ([.ref (ad a), va_re ad p0, .int p1, .int p2] : List Value).toArray s 0 0 A) (F0 m 38 ls [])) ?_ _ _ hy13 _ _ _ hP hD hS (lv_sub hl [0, 1, 2, 3, 4, 5] rfl)
    rintro s14 ⟨z17, hF, hwz17⟩ H locs ls hP hD hS hl
    try dsimp only at hF
    refine lv_iload hx hb dX6_fillColours_38 (lv_at hl 0 rfl) ?_
    refine lv_iconst (v := (4 : Int32)) hx hb dX6_fillColours_40 (by decide) ?_
    refine lv_icmp_ge (tgt := 177) hx hb dX6_fillColours_41 (by decide) (fun c18 => ?_) (fun c18 => ?_)
    · rw [if_pos c18] at hF
      obtain rfl := Option.some.inj hF
      subst hwz17
      exact K13 _ _ _ hP hD hS (lv_sub hl [0, 1, 2, 3, 4, 5] rfl)
    · rw [if_neg c18] at hF
      refine lv_iload hx hb dX6_fillColours_44 (lv_at hl 0 rfl) ?_
      refine lv_iconst (v := (2 : Int32)) hx hb dX6_fillColours_46 (by decide) ?_
      refine lv_irem hx hb dX6_fillColours_47 (by decide) ?_
      obtain ⟨x19, ex19, hF⟩ := ltt_some hF
      refine lv_topi (fun zx19 ezx19 => ?_)
      obtain rfl : x19 = zx19 := ex19.trans ezx19.symm
      refine lv_iconst (v := (4 : Int32)) hx hb dX6_fillColours_48 (by decide) ?_
      refine lv_imul hx hb dX6_fillColours_49 ?_
      obtain ⟨x20, ex20, hF⟩ := ltt_some hF
      refine lv_topi (fun zx20 ezx20 => ?_)
      obtain rfl : x20 = zx20 := ex20.trans ezx20.symm
      refine lv_istore (lv' := [(6, .int x20), (5, .int s14.1), (4, .int s2.1), (0, .ref (ad a)), (1, va_re ad p0), (2, .int p1), (3, .int p2)]) hx hb dX6_fillColours_50 hl (by decide) rfl (fun ls hl => ?_)
      refine lv_iload hx hb dX6_fillColours_52 (lv_at hl 1 rfl) ?_
      refine lv_iconst (v := (2 : Int32)) hx hb dX6_fillColours_54 (by decide) ?_
      refine lv_idiv hx hb dX6_fillColours_55 (by decide) ?_
      obtain ⟨x21, ex21, hF⟩ := ltt_some hF
      refine lv_topi (fun zx21 ezx21 => ?_)
      obtain rfl : x21 = zx21 := ex21.trans ezx21.symm
      refine lv_iconst (v := (4 : Int32)) hx hb dX6_fillColours_56 (by decide) ?_
      refine lv_imul hx hb dX6_fillColours_57 ?_
      obtain ⟨x22, ex22, hF⟩ := ltt_some hF
      refine lv_topi (fun zx22 ezx22 => ?_)
      obtain rfl : x22 = zx22 := ex22.trans ezx22.symm
      refine lv_istore (lv' := [(7, .int x22), (6, .int x20), (5, .int s14.1), (4, .int s2.1), (0, .ref (ad a)), (1, va_re ad p0), (2, .int p1), (3, .int p2)]) hx hb dX6_fillColours_58 hl (by decide) rfl (fun ls hl => ?_)
      refine lv_aload_n hx hb dX6_fillColours_60 rfl (lv_at hl 4 rfl) ?_
      refine lv_aloadq_n hx hb dX6_fillColours_61 rfl (lv_at hl 5 rfl) ?_
      refine W_st (st' := [.ref (ad b6), .ref (ad a)]) (by rw [va_some ho6]) ?_
      refine va_get (D := D) (ci := 9) (v := va_re ad (s14.2.2 b6 9)) (C := RX9) (T := TX9) (N := 20) hx hb hts (mus hf_X9) hown hK hP b6 (wld_o ct ad G s14.2 hc6 hk6 (by decide)) rfl 9 (by decide) (hts (.fieldLink RX6 234 "VideoSuite$Work" "level" "[I") (mu mw_456)) (fun _ h9 => h9) rfl dX6_fillColours_62 ?_
      refine lv_iload_n hx hb dX6_fillColours_65 rfl (lv_at hl 6 rfl) ?_
      refine lv_bipush (v := (15 : Int32)) hx hb dX6_fillColours_66 (by decide) ?_
      refine lv_iconst (v := (4 : Int32)) hx hb dX6_fillColours_68 (by decide) ?_
      refine lv_iload hx hb dX6_fillColours_69 (lv_at hl 3 rfl) ?_
      refine lv_imul hx hb dX6_fillColours_71 ?_
      obtain ⟨x23, ex23, hF⟩ := ltt_some hF
      refine lv_topi (fun zx23 ezx23 => ?_)
      obtain rfl : x23 = zx23 := ex23.trans ezx23.symm
      refine lv_iadd hx hb dX6_fillColours_72 ?_
      obtain ⟨x24, ex24, hF⟩ := ltt_some hF
      refine lv_topi (fun zx24 ezx24 => ?_)
      obtain rfl : x24 = zx24 := ex24.trans ezx24.symm
      refine lv_iload hx hb dX6_fillColours_73 (lv_at hl 2 rfl) ?_
      refine lv_iadd hx hb dX6_fillColours_75 ?_
      obtain ⟨x25, ex25, hF⟩ := ltt_some hF
      refine lv_topi (fun zx25 ezx25 => ?_)
      obtain rfl : x25 = zx25 := ex25.trans ezx25.symm
      obtain ⟨y26, hy26, hF⟩ := bnd_some hF
      have hf9 := wA_in hD hA9 hS
      refine va_calli (va_runS (As := [.int p1, .int x25]) (rest := [va_re ad (s14.2.2 b6 9), .ref (ad a)]) ⟨hx, hb, hml, hown, hts⟩ (kX9_levelAt l D ct ad Z G s14.2 H.size p1 x25 y26 hy26) (va_cwS 2 hts gX6_fillColours_X9_levelAt rfl rfl rfl (by decide +kernel) ⟨Nat.le_of_ble_eq_true rfl, Nat.le_of_ble_eq_true rfl⟩) ⟨fun a U g mk q => by obtain ⟨q0, q1, qP, qK, qD, qZ, qN⟩ := q; exact ⟨q0, q1, qP, va_K.moved (u := U) (U := U.calling g mk a) (Vm.Alike.refl U.vm) qK, qD, sF.moved (u := U) (U := U.calling g mk a) (Vm.Alike.refl U.vm) qZ, nF.same rfl qN⟩, fun U hU hW => ⟨rfl, by rw [hU], by rw [hU]; exact hP, va_K.moved hW.alike hK, hD.weaken (fun _ _ _ _ => trivial), by rw [hU]; exact ((hZ.kept hS.2.1).narrow hf9).moved hW.alike, hN.warm hW⟩⟩ rfl rfl hl.1 rfl (lv_room (by simp only [List.map, va_re_cat]; exact Nat.le_of_ble_eq_true rfl)) dX6_fillColours_76 ⟨(Nat.zero_le _), (Nat.zero_le _)⟩) hS (fun q _ h => hf9 q h) hf9 (fun r u t H locs ht hvm hw hB hz1 hk1 hS => ?_)
      obtain ⟨hP, hK9, hD9⟩ := hB
      rw [ht] at hP
      try dsimp only at hw
      subst hw
      have hD := hD9.weaken (fun _ q _ h => hf9 q.1 h)
      refine lv_iconst (v := (1 : Int32)) hx hb dX6_fillColours_79 (by decide) ?_
      refine lv_iload_n hx hb dX6_fillColours_80 rfl (lv_at hl 7 rfl) ?_
      obtain ⟨y27, hy27, hF⟩ := bnd_some hF
      have hf9 := wA_in hD hA9 hS
      refine va_callv (va_runV (As := [va_re ad (s14.2.2 b6 9), .int y26.2, .int (1 : Int32), .int p2]) (rest := []) ⟨hx, hb, hml, hown, hts⟩ (kX6_unfold l D ct ad Z G y26.1 H.size a ((s14.2.2 b6 9)) y26.2 ((1 : Int32)) p2 y27 hc hk hy27) (cwV 4 hts gX6_fillColours_X6_unfold rfl rfl rfl (by decide +kernel) ⟨Nat.le_of_ble_eq_true rfl, Nat.le_of_ble_eq_true rfl⟩) ⟨fun a U g mk q => by obtain ⟨q0, q1, qP, qK, qD, qZ, qN⟩ := q; exact ⟨q0, q1, qP, va_K.moved (u := U) (U := U.calling g mk a) (Vm.Alike.refl U.vm) qK, qD, sF.moved (u := U) (U := U.calling g mk a) (Vm.Alike.refl U.vm) qZ, nF.same rfl qN⟩, va_recv hK hP (ci := 6) (q0 := a) rfl (wld_o ct ad G y26.1 hc hk (by decide)), fun U hU hW => ⟨rfl, by rw [hU], by rw [hU]; exact hP, va_K.moved hW.alike hK, hD.weaken (fun _ _ _ _ => trivial), by rw [hU]; exact ((hZ.kept hS.2.1).narrow hf9).moved hW.alike, hN.warm hW⟩⟩ rfl rfl hl.1 rfl (lv_room (Nat.le_of_ble_eq_true rfl)) dX6_fillColours_81 ⟨(Nat.zero_le _), (Nat.zero_le _)⟩) hS (fun q _ h => hf9 q h) hf9 (fun u t H locs ht hvm hw hB hz1 hk1 hS => ?_)
      obtain ⟨hP, hK9, hD9⟩ := hB
      rw [ht] at hP
      have hD := hD9.weaken (fun _ q _ h => hf9 q.1 h)
      refine lv_aload_n hx hb dX6_fillColours_84 rfl (lv_at hl 4 rfl) ?_
      refine va_get (D := D) (ci := 6) (v := va_re ad (y27.2 a 6)) (C := RX6) (T := TX6) (N := 14) hx hb hts (mus hf_X6) hown hK hP a (wld_o ct ad G y27 hc hk (by decide)) rfl 6 (by decide) (hts (.fieldLink RX6 30 "VideoSuite$Samples" "rest" "[I") (mu mw_542)) (fun _ h9 => h9) rfl dX6_fillColours_85 ?_
      refine lv_iconst (v := (0 : Int32)) hx hb dX6_fillColours_88 (by decide) ?_
      refine lv_aload_n hx hb dX6_fillColours_89 rfl (lv_at hl 4 rfl) ?_
      refine va_get (D := D) (ci := 6) (v := va_re ad (y27.2 a 7)) (C := RX6) (T := TX6) (N := 14) hx hb hts (mus hf_X6) hown hK hP a (wld_o ct ad G y27 hc hk (by decide)) rfl 7 (by decide) (hts (.fieldLink RX6 33 "VideoSuite$Samples" "even" "[I") (mu mw_543)) (fun _ h9 => h9) rfl dX6_fillColours_90 ?_
      refine lv_iload hx hb dX6_fillColours_93 (lv_at hl 2 rfl) ?_
      obtain ⟨b28, ho28, hc28, hk28, hF⟩ := dr_some hF
      refine W_st (st' := [.int s14.1, .ref (ad b28), .int (0 : Int32), va_re ad (y27.2 a 6)]) (by rw [va_some ho28]) ?_
      obtain ⟨hvc, hF⟩ := chk_some hF
      refine va_iald hx hb hK hP b28 1 (wld_i ct ad G y27 hc28 hk28) rfl hvc dX6_fillColours_95 ?_
      obtain ⟨x29, ex29, hF⟩ := ltt_some hF
      refine lv_topi (fun zx29 ezx29 => ?_)
      obtain rfl : x29 = zx29 := ex29.trans ezx29.symm
      refine va_gets hx hb (hZ.1 13 (by decide)).1 hS hown (hts (.fieldLink RX6 224 "VideoSuite$Samples" "NORM" "[I") (mu mw_2094)) (fun _ h => h) dX6_fillColours_96 ?_
      refine lv_iload_n hx hb dX6_fillColours_99 rfl (lv_at hl 7 rfl) ?_
      refine lv_iconst (v := (0 : Int32)) hx hb dX6_fillColours_100 (by decide) ?_
      refine lv_iconst (v := (0 : Int32)) hx hb dX6_fillColours_101 (by decide) ?_
      obtain ⟨y30, hy30, hF⟩ := bnd_some hF
      have hf9 := wA_in hD hA9 hS
      refine va_calli (va_runS (As := [.int p2, .int (0 : Int32), .int (0 : Int32)]) (rest := [.ref (Z 13), .int x29, .int (0 : Int32), va_re ad (y27.2 a 6)]) ⟨hx, hb, hml, hown, hts⟩ (kX6_normAt l D ct ad Z G y27 H.size p2 ((0 : Int32)) ((0 : Int32)) y30 hy30) (va_cwS 3 hts gX6_fillColours_X6_normAt rfl rfl rfl (by decide +kernel) ⟨Nat.le_of_ble_eq_true rfl, Nat.le_of_ble_eq_true rfl⟩) ⟨fun a U g mk q => by obtain ⟨q0, q1, qP, qK, qD, qZ, qN⟩ := q; exact ⟨q0, q1, qP, va_K.moved (u := U) (U := U.calling g mk a) (Vm.Alike.refl U.vm) qK, qD, sF.moved (u := U) (U := U.calling g mk a) (Vm.Alike.refl U.vm) qZ, nF.same rfl qN⟩, fun U hU hW => ⟨rfl, by rw [hU], by rw [hU]; exact hP, va_K.moved hW.alike hK, hD.weaken (fun _ _ _ _ => trivial), by rw [hU]; exact ((hZ.kept hS.2.1).narrow hf9).moved hW.alike, hN.warm hW⟩⟩ rfl rfl hl.1 rfl (lv_room (by simp only [List.map, va_re_cat]; exact Nat.le_of_ble_eq_true rfl)) dX6_fillColours_102 ⟨(Nat.zero_le _), (Nat.zero_le _)⟩) hS (fun q _ h => hf9 q h) hf9 (fun r u t H locs ht hvm hw hB hz1 hk1 hS => ?_)
      obtain ⟨hP, hK9, hD9⟩ := hB
      rw [ht] at hP
      try dsimp only at hw
      subst hw
      have hD := hD9.weaken (fun _ q _ h => hf9 q.1 h)
      obtain ⟨hvc, hF⟩ := chk_some hF
      refine va_ti (v := .int ((sT 13).getD y30.2.toNatClampNeg 0)) hx hb (hZ.1 13 (by decide)).2 hS hvc rfl dX6_fillColours_105 ?_
      obtain ⟨x31, ex31, hF⟩ := ltt_some hF
      refine lv_topi (fun zx31 ezx31 => ?_)
      obtain rfl : x31 = zx31 := ex31.trans ezx31.symm
      refine lv_imul hx hb dX6_fillColours_106 ?_
      obtain ⟨x32, ex32, hF⟩ := ltt_some hF
      refine lv_topi (fun zx32 ezx32 => ?_)
      obtain rfl : x32 = zx32 := ex32.trans ezx32.symm
      refine lv_iload_n hx hb dX6_fillColours_107 rfl (lv_at hl 7 rfl) ?_
      refine lv_bipush (v := (6 : Int32)) hx hb dX6_fillColours_108 (by decide) ?_
      refine lv_idiv hx hb dX6_fillColours_110 (by decide) ?_
      obtain ⟨x33, ex33, hF⟩ := ltt_some hF
      refine lv_topi (fun zx33 ezx33 => ?_)
      obtain rfl : x33 = zx33 := ex33.trans ezx33.symm
      refine lv_ishl hx hb dX6_fillColours_111 ?_
      obtain ⟨x34, ex34, hF⟩ := ltt_some hF
      refine lv_topi (fun zx34 ezx34 => ?_)
      obtain rfl : x34 = zx34 := ex34.trans ezx34.symm
      refine lv_iconst (v := (1 : Int32)) hx hb dX6_fillColours_112 (by decide) ?_
      refine lv_ishr hx hb dX6_fillColours_113 ?_
      obtain ⟨x35, ex35, hF⟩ := ltt_some hF
      refine lv_topi (fun zx35 ezx35 => ?_)
      obtain rfl : x35 = zx35 := ex35.trans ezx35.symm
      obtain ⟨b36, ho36, hc36, hk36, hF⟩ := dr_some hF
      refine W_st (st' := [.int x35, .int (0 : Int32), .ref (ad b36)]) (by rw [va_some ho36]) ?_
      obtain ⟨hvc, hF⟩ := chk_some hF
      refine va_iast hx hb hK hP hD hS b36 1 (wld_i ct ad G y30.1 hc36 hk36) rfl hvc dX6_fillColours_114 (fun H locs hP hD hS => ?_)
      obtain ⟨M37, eM37, hF⟩ := ltt_some hF
      rw [set_i ct ad G y30.1 hc36 hk36, ← eM37] at hP hD
      refine lv_aload_n hx hb dX6_fillColours_115 rfl (lv_at hl 4 rfl) ?_
      refine lv_aloadq_n hx hb dX6_fillColours_116 rfl (lv_at hl 5 rfl) ?_
      refine W_st (st' := [.ref (ad b6), .ref (ad a)]) (by rw [va_some ho6]) ?_
      refine va_get (D := D) (ci := 9) (v := va_re ad (M37.2 b6 0)) (C := RX9) (T := TX9) (N := 20) hx hb hts (mus hf_X9) hown hK hP b6 (wld_o ct ad G M37 hc6 hk6 (by decide)) rfl 0 (by decide) (hts (.fieldLink RX6 46 "VideoSuite$Work" "pic" "LVideoSuite$Picture;") (mu mw_421)) (fun _ h9 => h9) rfl dX6_fillColours_117 ?_
      obtain ⟨b38, ho38, hc38, hk38, hF⟩ := dr_some hF
      refine W_st (st' := [.ref (ad b38), .ref (ad a)]) (by rw [va_some ho38]) ?_
      refine va_get (D := D) (ci := 4) (v := va_re ad (M37.2 b38 4)) (C := RX4) (T := TX4) (N := 18) hx hb hts (mus hf_X4) hown hK hP b38 (wld_o ct ad G M37 hc38 hk38 (by decide)) rfl 4 (by decide) (hts (.fieldLink RX6 121 "VideoSuite$Picture" "plane" "[[I") (mu mw_1433)) (fun _ h9 => h9) rfl dX6_fillColours_120 ?_
      refine lv_iload hx hb dX6_fillColours_123 (lv_at hl 3 rfl) ?_
      obtain ⟨b39, ho39, hc39, hk39, hF⟩ := dr_some hF
      refine W_st (st' := [.int s2.1, .ref (ad b39), .ref (ad a)]) (by rw [va_some ho39]) ?_
      obtain ⟨hvc, hF⟩ := chk_some hF
      refine ld_g hx hb hK hP hc39 hk39 hvc dX6_fillColours_125 ?_
      refine lv_aloadq_n hx hb dX6_fillColours_126 rfl (lv_at hl 5 rfl) ?_
      refine W_st (st' := [.ref (ad b6), va_re ad (M37.2 b39 s2.1.toNatClampNeg), .ref (ad a)]) (by rw [va_some ho6]) ?_
      refine va_get (D := D) (ci := 9) (v := va_re ad (M37.2 b6 0)) (C := RX9) (T := TX9) (N := 20) hx hb hts (mus hf_X9) hown hK hP b6 (wld_o ct ad G M37 hc6 hk6 (by decide)) rfl 0 (by decide) (hts (.fieldLink RX6 46 "VideoSuite$Work" "pic" "LVideoSuite$Picture;") (mu mw_421)) (fun _ h9 => h9) rfl dX6_fillColours_127 ?_
      refine lv_iload_n hx hb dX6_fillColours_130 rfl (lv_at hl 6 rfl) ?_
      refine lv_iload hx hb dX6_fillColours_131 (lv_at hl 1 rfl) ?_
      refine lv_iload hx hb dX6_fillColours_133 (lv_at hl 0 rfl) ?_
      obtain ⟨y40, hy40, hF⟩ := bnd_some hF
      have hf9 := wA_in hD hA9 hS
      refine va_calli (va_runS (As := [va_re ad (M37.2 b6 0), .int p1, .int x20, .int x22]) (rest := [va_re ad (M37.2 b39 s2.1.toNatClampNeg), .ref (ad a)]) ⟨hx, hb, hml, hown, hts⟩ (kX6_colourAt l D ct ad Z G M37 H.size ((M37.2 b6 0)) p1 x20 x22 y40 hy40) (va_cwS 4 hts gX6_fillColours_X6_colourAt rfl rfl rfl (by decide +kernel) ⟨Nat.le_of_ble_eq_true rfl, Nat.le_of_ble_eq_true rfl⟩) ⟨fun a U g mk q => by obtain ⟨q0, q1, qP, qK, qD, qZ, qN⟩ := q; exact ⟨q0, q1, qP, va_K.moved (u := U) (U := U.calling g mk a) (Vm.Alike.refl U.vm) qK, qD, sF.moved (u := U) (U := U.calling g mk a) (Vm.Alike.refl U.vm) qZ, nF.same rfl qN⟩, fun U hU hW => ⟨rfl, by rw [hU], by rw [hU]; exact hP, va_K.moved hW.alike hK, hD.weaken (fun _ _ _ _ => trivial), by rw [hU]; exact ((hZ.kept hS.2.1).narrow hf9).moved hW.alike, hN.warm hW⟩⟩ rfl rfl hl.1 rfl (lv_room (by simp only [List.map, va_re_cat]; exact Nat.le_of_ble_eq_true rfl)) dX6_fillColours_135 ⟨(Nat.zero_le _), (Nat.zero_le _)⟩) hS (fun q _ h => hf9 q h) hf9 (fun r u t H locs ht hvm hw hB hz1 hk1 hS => ?_)
      obtain ⟨hP, hK9, hD9⟩ := hB
      rw [ht] at hP
      try dsimp only at hw
      subst hw
      have hD := hD9.weaken (fun _ q _ h => hf9 q.1 h)
      refine lv_bipush (v := (8 : Int32)) hx hb dX6_fillColours_138 (by decide) ?_
      refine lv_aloadq_n hx hb dX6_fillColours_140 rfl (lv_at hl 5 rfl) ?_
      refine W_st (st' := [.ref (ad b6), .int (8 : Int32), .int y40.2, va_re ad (M37.2 b39 s2.1.toNatClampNeg), .ref (ad a)]) (by rw [va_some ho6]) ?_
      refine va_get (D := D) (ci := 9) (v := va_re ad (y40.1.2 b6 0)) (C := RX9) (T := TX9) (N := 20) hx hb hts (mus hf_X9) hown hK hP b6 (wld_o ct ad G y40.1 hc6 hk6 (by decide)) rfl 0 (by decide) (hts (.fieldLink RX6 46 "VideoSuite$Work" "pic" "LVideoSuite$Picture;") (mu mw_421)) (fun _ h9 => h9) rfl dX6_fillColours_141 ?_
      obtain ⟨b41, ho41, hc41, hk41, hF⟩ := dr_some hF
      refine W_st (st' := [.ref (ad b41), .int (8 : Int32), .int y40.2, va_re ad (M37.2 b39 s2.1.toNatClampNeg), .ref (ad a)]) (by rw [va_some ho41]) ?_
      refine va_get (D := D) (ci := 4) (v := .int (y40.1.1 b41 1)) (C := RX4) (T := TX4) (N := 18) hx hb hts (mus hf_X4) hown hK hP b41 (wld_o ct ad G y40.1 hc41 hk41 (by decide)) rfl 1 (by decide) (hts (.fieldLink RX6 83 "VideoSuite$Picture" "width" "I") (mu mw_1422)) (fun _ h9 => h9) rfl dX6_fillColours_144 ?_
      obtain ⟨x42, ex42, hF⟩ := ltt_some hF
      refine lv_topi (fun zx42 ezx42 => ?_)
      obtain rfl : x42 = zx42 := ex42.trans ezx42.symm
      refine lv_imul hx hb dX6_fillColours_147 ?_
      obtain ⟨x43, ex43, hF⟩ := ltt_some hF
      refine lv_topi (fun zx43 ezx43 => ?_)
      obtain rfl : x43 = zx43 := ex43.trans ezx43.symm
      refine lv_sipush (v := (192 : Int32)) hx hb dX6_fillColours_148 (by decide) ?_
      refine lv_bipush (v := (64 : Int32)) hx hb dX6_fillColours_151 (by decide) ?_
      refine lv_iload hx hb dX6_fillColours_153 (lv_at hl 3 rfl) ?_
      refine lv_imul hx hb dX6_fillColours_155 ?_
      obtain ⟨x44, ex44, hF⟩ := ltt_some hF
      refine lv_topi (fun zx44 ezx44 => ?_)
      obtain rfl : x44 = zx44 := ex44.trans ezx44.symm
      refine lv_iadd hx hb dX6_fillColours_156 ?_
      obtain ⟨x45, ex45, hF⟩ := ltt_some hF
      refine lv_topi (fun zx45 ezx45 => ?_)
      obtain rfl : x45 = zx45 := ex45.trans ezx45.symm
      refine lv_bipush (v := (8 : Int32)) hx hb dX6_fillColours_157 (by decide) ?_
      refine lv_iload hx hb dX6_fillColours_159 (lv_at hl 0 rfl) ?_
      refine lv_imul hx hb dX6_fillColours_161 ?_
      obtain ⟨x46, ex46, hF⟩ := ltt_some hF
      refine lv_topi (fun zx46 ezx46 => ?_)
      obtain rfl : x46 = zx46 := ex46.trans ezx46.symm
      refine lv_iadd hx hb dX6_fillColours_162 ?_
      obtain ⟨x47, ex47, hF⟩ := ltt_some hF
      refine lv_topi (fun zx47 ezx47 => ?_)
      obtain rfl : x47 = zx47 := ex47.trans ezx47.symm
      refine lv_iload hx hb dX6_fillColours_163 (lv_at hl 1 rfl) ?_
      refine lv_iadd hx hb dX6_fillColours_165 ?_
      obtain ⟨x48, ex48, hF⟩ := ltt_some hF
      refine lv_topi (fun zx48 ezx48 => ?_)
      obtain rfl : x48 = zx48 := ex48.trans ezx48.symm
      refine lv_bipush (v := (8 : Int32)) hx hb dX6_fillColours_166 (by decide) ?_
      obtain ⟨y49, hy49, hF⟩ := bnd_some hF
      have hf9 := wA_in hD hA9 hS
      refine va_callv (va_runV (As := [va_re ad (M37.2 b39 s2.1.toNatClampNeg), .int y40.2, .int x43, .int x48, .int (8 : Int32)]) (rest := []) ⟨hx, hb, hml, hown, hts⟩ (kX6_fillPiece l D ct ad Z G y40.1 H.size a ((M37.2 b39 s2.1.toNatClampNeg)) y40.2 x43 x48 ((8 : Int32)) y49 hc hk hy49) (cwV 5 hts gX6_fillColours_X6_fillPiece rfl rfl rfl (by decide +kernel) ⟨Nat.le_of_ble_eq_true rfl, Nat.le_of_ble_eq_true rfl⟩) ⟨fun a U g mk q => by obtain ⟨q0, q1, qP, qK, qD, qZ, qN⟩ := q; exact ⟨q0, q1, qP, va_K.moved (u := U) (U := U.calling g mk a) (Vm.Alike.refl U.vm) qK, qD, sF.moved (u := U) (U := U.calling g mk a) (Vm.Alike.refl U.vm) qZ, nF.same rfl qN⟩, va_recv hK hP (ci := 6) (q0 := a) rfl (wld_o ct ad G y40.1 hc hk (by decide)), fun U hU hW => ⟨rfl, by rw [hU], by rw [hU]; exact hP, va_K.moved hW.alike hK, hD.weaken (fun _ _ _ _ => trivial), by rw [hU]; exact ((hZ.kept hS.2.1).narrow hf9).moved hW.alike, hN.warm hW⟩⟩ rfl rfl hl.1 rfl (lv_room (Nat.le_of_ble_eq_true rfl)) dX6_fillColours_168 ⟨(Nat.zero_le _), (Nat.zero_le _)⟩) hS (fun q _ h => hf9 q h) hf9 (fun u t H locs ht hvm hw hB hz1 hk1 hS => ?_)
      obtain ⟨hP, hK9, hD9⟩ := hB
      rw [ht] at hP
      have hD := hD9.weaken (fun _ q _ h => hf9 q.1 h)
      obtain ⟨x50, ex50, hF⟩ := ltt_some hF
      refine lv_iinc (v := x50) (lv' := [(5, .int x50), (7, .int x22), (6, .int x20), (4, .int s2.1), (0, .ref (ad a)), (1, va_re ad p0), (2, .int p1), (3, .int p2)]) hx hb dX6_fillColours_171 hl (k := 2) rfl (by rw [ex50]; rfl) (by decide) rfl (fun ls hl => ?_)
      refine lv_goto (tgt := 38) hx hb dX6_fillColours_174 (by decide) ?_
      obtain rfl := Option.some.inj hF
      exact hwz17 _ _ _ hP hD hS (lv_sub hl [0, 3, 4, 5, 6, 7] rfl)
set_option maxRecDepth 20000 in
theorem gX6_fillLuma_X9_pieceX : GoodIn wuX6_fillLuma (va_wsS RX6 76 yX9_pieceX wuX9_pieceX) := gu_S mw_2014 mw_949 mw_171 mw_950
set_option maxRecDepth 20000 in
set_option maxRecDepth 20000 in
theorem gX6_fillLuma_X9_pieceY : GoodIn wuX6_fillLuma (va_wsS RX6 80 yX9_pieceY wuX9_pieceY) := gu_S mw_2015 mw_952 mw_171 mw_953
set_option maxRecDepth 20000 in
set_option maxRecDepth 20000 in
theorem gX6_fillLuma_X9_levelAt : GoodIn wuX6_fillLuma (va_wsS RX6 237 yX9_levelAt wuX9_levelAt) := gu_S mw_2080 mw_1789 mw_171 mw_1790
set_option maxRecDepth 20000 in
set_option maxRecDepth 20000 in
theorem gX6_fillLuma_X6_unfold : GoodIn wuX6_fillLuma (wsV RX6 240 RX6 yX6_unfold wuX6_unfold) := gu_V mw_2089 mw_2091 mw_82 mw_172 mw_2092
set_option maxRecDepth 20000 in
set_option maxRecDepth 20000 in
theorem gX6_fillLuma_X6_lumaAt : GoodIn wuX6_fillLuma (va_wsS RX6 175 yX6_lumaAt wuX6_lumaAt) := gu_S mw_1981 mw_1982 mw_172 mw_1983
set_option maxRecDepth 20000 in
set_option maxRecDepth 20000 in
theorem gX6_fillLuma_X6_fillPiece : GoodIn wuX6_fillLuma (wsV RX6 244 RX6 yX6_fillPiece wuX6_fillPiece) := gu_V mw_2099 mw_2101 mw_83 mw_172 mw_2102
theorem dX6_fillLuma_0 : decode cX6_fillLuma 0 = .ok (.iload_n 3, 1) := by decide +kernel
theorem dX6_fillLuma_1 : decode cX6_fillLuma 1 = .ok (.invokestatic 76, 3) := by decide +kernel
theorem dX6_fillLuma_4 : decode cX6_fillLuma 4 = .ok (.istore 5, 2) := by decide +kernel
theorem dX6_fillLuma_6 : decode cX6_fillLuma 6 = .ok (.iload_n 3, 1) := by decide +kernel
theorem dX6_fillLuma_7 : decode cX6_fillLuma 7 = .ok (.invokestatic 80, 3) := by decide +kernel
theorem dX6_fillLuma_10 : decode cX6_fillLuma 10 = .ok (.istore 6, 2) := by decide +kernel
theorem dX6_fillLuma_12 : decode cX6_fillLuma 12 = .ok (.aload_n 0, 1) := by decide +kernel
theorem dX6_fillLuma_13 : decode cX6_fillLuma 13 = .ok (.aload_n 1, 1) := by decide +kernel
theorem dX6_fillLuma_14 : decode cX6_fillLuma 14 = .ok (.getfield 234, 3) := by decide +kernel
theorem dX6_fillLuma_17 : decode cX6_fillLuma 17 = .ok (.iload_n 2, 1) := by decide +kernel
theorem dX6_fillLuma_18 : decode cX6_fillLuma 18 = .ok (.iload_n 3, 1) := by decide +kernel
theorem dX6_fillLuma_19 : decode cX6_fillLuma 19 = .ok (.invokestatic 237, 3) := by decide +kernel
theorem dX6_fillLuma_22 : decode cX6_fillLuma 22 = .ok (.iconst 0, 1) := by decide +kernel
theorem dX6_fillLuma_23 : decode cX6_fillLuma 23 = .ok (.iload 4, 2) := by decide +kernel
theorem dX6_fillLuma_25 : decode cX6_fillLuma 25 = .ok (.invokevirtual 240, 3) := by decide +kernel
theorem dX6_fillLuma_28 : decode cX6_fillLuma 28 = .ok (.aload_n 0, 1) := by decide +kernel
theorem dX6_fillLuma_29 : decode cX6_fillLuma 29 = .ok (.aload_n 1, 1) := by decide +kernel
theorem dX6_fillLuma_30 : decode cX6_fillLuma 30 = .ok (.getfield 46, 3) := by decide +kernel
theorem dX6_fillLuma_33 : decode cX6_fillLuma 33 = .ok (.getfield 121, 3) := by decide +kernel
theorem dX6_fillLuma_36 : decode cX6_fillLuma 36 = .ok (.iconst 0, 1) := by decide +kernel
theorem dX6_fillLuma_37 : decode cX6_fillLuma 37 = .ok (.aaload, 1) := by decide +kernel
theorem dX6_fillLuma_38 : decode cX6_fillLuma 38 = .ok (.aload_n 1, 1) := by decide +kernel
theorem dX6_fillLuma_39 : decode cX6_fillLuma 39 = .ok (.getfield 46, 3) := by decide +kernel
theorem dX6_fillLuma_42 : decode cX6_fillLuma 42 = .ok (.iload_n 2, 1) := by decide +kernel
theorem dX6_fillLuma_43 : decode cX6_fillLuma 43 = .ok (.iload 5, 2) := by decide +kernel
theorem dX6_fillLuma_45 : decode cX6_fillLuma 45 = .ok (.iload 6, 2) := by decide +kernel
theorem dX6_fillLuma_47 : decode cX6_fillLuma 47 = .ok (.invokestatic 175, 3) := by decide +kernel
theorem dX6_fillLuma_50 : decode cX6_fillLuma 50 = .ok (.bipush 16, 2) := by decide +kernel
theorem dX6_fillLuma_52 : decode cX6_fillLuma 52 = .ok (.aload_n 1, 1) := by decide +kernel
theorem dX6_fillLuma_53 : decode cX6_fillLuma 53 = .ok (.getfield 46, 3) := by decide +kernel
theorem dX6_fillLuma_56 : decode cX6_fillLuma 56 = .ok (.getfield 83, 3) := by decide +kernel
theorem dX6_fillLuma_59 : decode cX6_fillLuma 59 = .ok (.imul, 1) := by decide +kernel
theorem dX6_fillLuma_60 : decode cX6_fillLuma 60 = .ok (.bipush 16, 2) := by decide +kernel
theorem dX6_fillLuma_62 : decode cX6_fillLuma 62 = .ok (.iload 6, 2) := by decide +kernel
theorem dX6_fillLuma_64 : decode cX6_fillLuma 64 = .ok (.imul, 1) := by decide +kernel
theorem dX6_fillLuma_65 : decode cX6_fillLuma 65 = .ok (.iload 5, 2) := by decide +kernel
theorem dX6_fillLuma_67 : decode cX6_fillLuma 67 = .ok (.iadd, 1) := by decide +kernel
theorem dX6_fillLuma_68 : decode cX6_fillLuma 68 = .ok (.bipush 16, 2) := by decide +kernel
theorem dX6_fillLuma_70 : decode cX6_fillLuma 70 = .ok (.invokevirtual 244, 3) := by decide +kernel
theorem dX6_fillLuma_73 : decode cX6_fillLuma 73 = .ok (.return_, 1) := by decide +kernel
def FX6_fillLuma (G : GG) (M : DD) (a : Nat) (p0 : Option Nat) (p1 : Int32) (p2 : Int32) (p3 : Int32) : Option (DD) :=
  bnd (FX9_pieceX G M p2) fun y1 =>
  bnd (FX9_pieceY G y1.1 p2) fun y2 =>
  dr G 9 p0 fun b3 =>
  bnd (FX9_levelAt G y2.1 p1 p2) fun y4 =>
  bnd (FX6_unfold G y4.1 a ((y2.1.2 b3 9)) y4.2 ((0 : Int32)) p3) fun y5 =>
  dr G 4 ((y5.2 b3 0)) fun b6 =>
  dr G 15 ((y5.2 b6 4)) fun b7 =>
  chk (¬ (((0 : Int32)) < 0 ∨ G.2.2 b7 ≤ ((0 : Int32)).toNatClampNeg)) <|
  bnd (FX6_lumaAt G y5 ((y5.2 b3 0)) p1 y1.2 y2.2) fun y8 =>
  dr G 4 ((y8.1.2 b3 0)) fun b9 =>
  ltt (y8.1.1 b9 1) fun x10 =>
  ltt ((((16 : Int32)) * x10)) fun x11 =>
  ltt ((((16 : Int32)) * y2.2)) fun x12 =>
  ltt ((x12 + y1.2)) fun x13 =>
  bnd (FX6_fillPiece G y8.1 a ((y5.2 b7 ((0 : Int32)).toNatClampNeg)) y8.2 x11 x13 ((16 : Int32))) fun y14 =>
  some y14
set_option maxHeartbeats 4000000 in
set_option maxRecDepth 100000 in
theorem kX6_fillLuma (l : Launch) (D : va_G) (ct : CT) (ad : Nat → Nat) (Z : Nat → Nat) (G : GG) (M : DD) (sz : Nat) (a : Nat) (p0 : Option Nat) (p1 : Int32) (p2 : Int32) (p3 : Int32) (y : DD) (hc : a < G.1) (hk : G.2.1 a = 6) (hF : FX6_fillLuma G M a p0 p1 p2 p3 = some y) : Met l yX6_fillLuma wuX6_fillLuma ({ frames := 2, cells := 0, slots := 0, locals := 55 }) (va_Pc [.ref (ad a), va_re ad p0, .int p1, .int p2, .int p3] (kB D ct ad Z G M sz)) (va_Qv (fun (_ : Unit) => True) (fun _ t => kE D ct ad G (wA ad G sz) y t) (wA ad G sz)) 0 0 (wA ad G sz) := by
  refine Met.ofW (cc := cX6_fillLuma) (maxL := 7) (ret := none) (by decide) rfl ?_
  intro p e s m args below meth c s₁ B hml hv
  obtain ⟨rfl, hsz, hP, hK, hD0, hZ, hN⟩ := hv
  have hx := B.exec
  have hb := B.bytes
  have hr := B.returns
  have hts := atoms_spec (ws := wuX6_fillLuma) B.pre
  have hown : s.vm.findClass RX6 = some m.cls := findClass_of_methodNamed B.named
  have hlocks := B.notSynchronized
  subst hsz
  have hD := wD_self (sz := s.heap.size) hD0
  have hA9 : ∀ q, s.heap.size ≤ q → wA ad G s.heap.size q := fun q h => Or.inr h
  generalize hAe : wA ad G s.heap.size = A at hD hA9 hZ ⊢
  have hS : va_S A s.heap s.heap [] := va_S.rf
  have hl := lv_entry ([.ref (ad a), va_re ad p0, .int p1, .int p2, .int p3]) (n := 7) (by cases p0 <;> exact Nat.le_of_ble_eq_true rfl)
  rw [lg_entry_eq]
  generalize (lg_sl ([.ref (ad a), va_re ad p0, .int p1, .int p2, .int p3]) ++ List.replicate (7 - (lg_sl ([.ref (ad a), va_re ad p0, .int p1, .int p2, .int p3])).length) Slot.unset).toArray = ls at hl ⊢
  have hl : lv_has ls 7 [(0, .ref (ad a)), (1, va_re ad p0), (2, .int p1), (3, .int p2), (4, .int p3)] := by have e9 : lv_args 0 [.ref (ad a), va_re ad p0, .int p1, .int p2, .int p3] = [(0, .ref (ad a)), (1, va_re ad p0), (2, .int p1), (3, .int p2), (4, .int p3)] := (by cases p0 <;> rfl); rw [e9] at hl; exact hl
  unfold FX6_fillLuma at hF
  refine lv_iload_n hx hb dX6_fillLuma_0 rfl (lv_at hl 3 rfl) ?_
  obtain ⟨y1, hy1, hF⟩ := bnd_some hF
  have hf9 := wA_in hD hA9 hS
  refine va_calli (va_runS (As := [.int p2]) (rest := []) ⟨hx, hb, hml, hown, hts⟩ (kX9_pieceX l D ct ad Z G M s.heap.size p2 y1 hy1) (va_cwS 1 hts gX6_fillLuma_X9_pieceX rfl rfl rfl (by decide +kernel) ⟨Nat.le_of_ble_eq_true rfl, Nat.le_of_ble_eq_true rfl⟩) ⟨fun a U g mk q => by obtain ⟨q0, q1, qP, qK, qD, qZ, qN⟩ := q; exact ⟨q0, q1, qP, va_K.moved (u := U) (U := U.calling g mk a) (Vm.Alike.refl U.vm) qK, qD, sF.moved (u := U) (U := U.calling g mk a) (Vm.Alike.refl U.vm) qZ, nF.same rfl qN⟩, fun U hU hW => ⟨rfl, by rw [hU], by rw [hU]; exact hP, va_K.moved hW.alike hK, hD.weaken (fun _ _ _ _ => trivial), by rw [hU]; exact ((hZ.kept hS.2.1).narrow hf9).moved hW.alike, hN.warm hW⟩⟩ rfl rfl hl.1 rfl (lv_room (Nat.le_of_ble_eq_true rfl)) dX6_fillLuma_1 ⟨(Nat.zero_le _), (Nat.zero_le _)⟩) hS (fun q _ h => hf9 q h) hf9 (fun r u t H locs ht hvm hw hB hz1 hk1 hS => ?_)
  obtain ⟨hP, hK9, hD9⟩ := hB
  rw [ht] at hP
  try dsimp only at hw
  subst hw
  have hD := hD9.weaken (fun _ q _ h => hf9 q.1 h)
  refine lv_istore (lv' := [(5, .int y1.2), (0, .ref (ad a)), (1, va_re ad p0), (2, .int p1), (3, .int p2), (4, .int p3)]) hx hb dX6_fillLuma_4 hl (by decide) rfl (fun ls hl => ?_)
  refine lv_iload_n hx hb dX6_fillLuma_6 rfl (lv_at hl 4 rfl) ?_
  obtain ⟨y2, hy2, hF⟩ := bnd_some hF
  have hf9 := wA_in hD hA9 hS
  refine va_calli (va_runS (As := [.int p2]) (rest := []) ⟨hx, hb, hml, hown, hts⟩ (kX9_pieceY l D ct ad Z G y1.1 H.size p2 y2 hy2) (va_cwS 1 hts gX6_fillLuma_X9_pieceY rfl rfl rfl (by decide +kernel) ⟨Nat.le_of_ble_eq_true rfl, Nat.le_of_ble_eq_true rfl⟩) ⟨fun a U g mk q => by obtain ⟨q0, q1, qP, qK, qD, qZ, qN⟩ := q; exact ⟨q0, q1, qP, va_K.moved (u := U) (U := U.calling g mk a) (Vm.Alike.refl U.vm) qK, qD, sF.moved (u := U) (U := U.calling g mk a) (Vm.Alike.refl U.vm) qZ, nF.same rfl qN⟩, fun U hU hW => ⟨rfl, by rw [hU], by rw [hU]; exact hP, va_K.moved hW.alike hK, hD.weaken (fun _ _ _ _ => trivial), by rw [hU]; exact ((hZ.kept hS.2.1).narrow hf9).moved hW.alike, hN.warm hW⟩⟩ rfl rfl hl.1 rfl (lv_room (Nat.le_of_ble_eq_true rfl)) dX6_fillLuma_7 ⟨(Nat.zero_le _), (Nat.zero_le _)⟩) hS (fun q _ h => hf9 q h) hf9 (fun r u t H locs ht hvm hw hB hz1 hk1 hS => ?_)
  obtain ⟨hP, hK9, hD9⟩ := hB
  rw [ht] at hP
  try dsimp only at hw
  subst hw
  have hD := hD9.weaken (fun _ q _ h => hf9 q.1 h)
  refine lv_istore (lv' := [(6, .int y2.2), (5, .int y1.2), (0, .ref (ad a)), (1, va_re ad p0), (2, .int p1), (3, .int p2), (4, .int p3)]) hx hb dX6_fillLuma_10 hl (by decide) rfl (fun ls hl => ?_)
  refine lv_aload_n hx hb dX6_fillLuma_12 rfl (lv_at hl 2 rfl) ?_
  refine lv_aloadq_n hx hb dX6_fillLuma_13 rfl (lv_at hl 3 rfl) ?_
  obtain ⟨b3, ho3, hc3, hk3, hF⟩ := dr_some hF
  refine W_st (st' := [.ref (ad b3), .ref (ad a)]) (by rw [va_some ho3]) ?_
  refine va_get (D := D) (ci := 9) (v := va_re ad (y2.1.2 b3 9)) (C := RX9) (T := TX9) (N := 20) hx hb hts (mus hf_X9) hown hK hP b3 (wld_o ct ad G y2.1 hc3 hk3 (by decide)) rfl 9 (by decide) (hts (.fieldLink RX6 234 "VideoSuite$Work" "level" "[I") (mu mw_456)) (fun _ h9 => h9) rfl dX6_fillLuma_14 ?_
  refine lv_iload_n hx hb dX6_fillLuma_17 rfl (lv_at hl 4 rfl) ?_
  refine lv_iload_n hx hb dX6_fillLuma_18 rfl (lv_at hl 5 rfl) ?_
  obtain ⟨y4, hy4, hF⟩ := bnd_some hF
  have hf9 := wA_in hD hA9 hS
  refine va_calli (va_runS (As := [.int p1, .int p2]) (rest := [va_re ad (y2.1.2 b3 9), .ref (ad a)]) ⟨hx, hb, hml, hown, hts⟩ (kX9_levelAt l D ct ad Z G y2.1 H.size p1 p2 y4 hy4) (va_cwS 2 hts gX6_fillLuma_X9_levelAt rfl rfl rfl (by decide +kernel) ⟨Nat.le_of_ble_eq_true rfl, Nat.le_of_ble_eq_true rfl⟩) ⟨fun a U g mk q => by obtain ⟨q0, q1, qP, qK, qD, qZ, qN⟩ := q; exact ⟨q0, q1, qP, va_K.moved (u := U) (U := U.calling g mk a) (Vm.Alike.refl U.vm) qK, qD, sF.moved (u := U) (U := U.calling g mk a) (Vm.Alike.refl U.vm) qZ, nF.same rfl qN⟩, fun U hU hW => ⟨rfl, by rw [hU], by rw [hU]; exact hP, va_K.moved hW.alike hK, hD.weaken (fun _ _ _ _ => trivial), by rw [hU]; exact ((hZ.kept hS.2.1).narrow hf9).moved hW.alike, hN.warm hW⟩⟩ rfl rfl hl.1 rfl (lv_room (by simp only [List.map, va_re_cat]; exact Nat.le_of_ble_eq_true rfl)) dX6_fillLuma_19 ⟨(Nat.zero_le _), (Nat.zero_le _)⟩) hS (fun q _ h => hf9 q h) hf9 (fun r u t H locs ht hvm hw hB hz1 hk1 hS => ?_)
  obtain ⟨hP, hK9, hD9⟩ := hB
  rw [ht] at hP
  try dsimp only at hw
  subst hw
  have hD := hD9.weaken (fun _ q _ h => hf9 q.1 h)
  refine lv_iconst (v := (0 : Int32)) hx hb dX6_fillLuma_22 (by decide) ?_
  refine lv_iload hx hb dX6_fillLuma_23 (lv_at hl 6 rfl) ?_
  obtain ⟨y5, hy5, hF⟩ := bnd_some hF
  have hf9 := wA_in hD hA9 hS
  refine va_callv (va_runV (As := [va_re ad (y2.1.2 b3 9), .int y4.2, .int (0 : Int32), .int p3]) (rest := []) ⟨hx, hb, hml, hown, hts⟩ (kX6_unfold l D ct ad Z G y4.1 H.size a ((y2.1.2 b3 9)) y4.2 ((0 : Int32)) p3 y5 hc hk hy5) (cwV 4 hts gX6_fillLuma_X6_unfold rfl rfl rfl (by decide +kernel) ⟨Nat.le_of_ble_eq_true rfl, Nat.le_of_ble_eq_true rfl⟩) ⟨fun a U g mk q => by obtain ⟨q0, q1, qP, qK, qD, qZ, qN⟩ := q; exact ⟨q0, q1, qP, va_K.moved (u := U) (U := U.calling g mk a) (Vm.Alike.refl U.vm) qK, qD, sF.moved (u := U) (U := U.calling g mk a) (Vm.Alike.refl U.vm) qZ, nF.same rfl qN⟩, va_recv hK hP (ci := 6) (q0 := a) rfl (wld_o ct ad G y4.1 hc hk (by decide)), fun U hU hW => ⟨rfl, by rw [hU], by rw [hU]; exact hP, va_K.moved hW.alike hK, hD.weaken (fun _ _ _ _ => trivial), by rw [hU]; exact ((hZ.kept hS.2.1).narrow hf9).moved hW.alike, hN.warm hW⟩⟩ rfl rfl hl.1 rfl (lv_room (Nat.le_of_ble_eq_true rfl)) dX6_fillLuma_25 ⟨(Nat.zero_le _), (Nat.zero_le _)⟩) hS (fun q _ h => hf9 q h) hf9 (fun u t H locs ht hvm hw hB hz1 hk1 hS => ?_)
  obtain ⟨hP, hK9, hD9⟩ := hB
  rw [ht] at hP
  have hD := hD9.weaken (fun _ q _ h => hf9 q.1 h)
  refine lv_aload_n hx hb dX6_fillLuma_28 rfl (lv_at hl 2 rfl) ?_
  refine lv_aloadq_n hx hb dX6_fillLuma_29 rfl (lv_at hl 3 rfl) ?_
  refine W_st (st' := [.ref (ad b3), .ref (ad a)]) (by rw [va_some ho3]) ?_
  refine va_get (D := D) (ci := 9) (v := va_re ad (y5.2 b3 0)) (C := RX9) (T := TX9) (N := 20) hx hb hts (mus hf_X9) hown hK hP b3 (wld_o ct ad G y5 hc3 hk3 (by decide)) rfl 0 (by decide) (hts (.fieldLink RX6 46 "VideoSuite$Work" "pic" "LVideoSuite$Picture;") (mu mw_421)) (fun _ h9 => h9) rfl dX6_fillLuma_30 ?_
  obtain ⟨b6, ho6, hc6, hk6, hF⟩ := dr_some hF
  refine W_st (st' := [.ref (ad b6), .ref (ad a)]) (by rw [va_some ho6]) ?_
  refine va_get (D := D) (ci := 4) (v := va_re ad (y5.2 b6 4)) (C := RX4) (T := TX4) (N := 18) hx hb hts (mus hf_X4) hown hK hP b6 (wld_o ct ad G y5 hc6 hk6 (by decide)) rfl 4 (by decide) (hts (.fieldLink RX6 121 "VideoSuite$Picture" "plane" "[[I") (mu mw_1433)) (fun _ h9 => h9) rfl dX6_fillLuma_33 ?_
  refine lv_iconst (v := (0 : Int32)) hx hb dX6_fillLuma_36 (by decide) ?_
  obtain ⟨b7, ho7, hc7, hk7, hF⟩ := dr_some hF
  refine W_st (st' := [.int (0 : Int32), .ref (ad b7), .ref (ad a)]) (by rw [va_some ho7]) ?_
  obtain ⟨hvc, hF⟩ := chk_some hF
  refine ld_g hx hb hK hP hc7 hk7 hvc dX6_fillLuma_37 ?_
  refine lv_aloadq_n hx hb dX6_fillLuma_38 rfl (lv_at hl 3 rfl) ?_
  refine W_st (st' := [.ref (ad b3), va_re ad (y5.2 b7 ((0 : Int32)).toNatClampNeg), .ref (ad a)]) (by rw [va_some ho3]) ?_
  refine va_get (D := D) (ci := 9) (v := va_re ad (y5.2 b3 0)) (C := RX9) (T := TX9) (N := 20) hx hb hts (mus hf_X9) hown hK hP b3 (wld_o ct ad G y5 hc3 hk3 (by decide)) rfl 0 (by decide) (hts (.fieldLink RX6 46 "VideoSuite$Work" "pic" "LVideoSuite$Picture;") (mu mw_421)) (fun _ h9 => h9) rfl dX6_fillLuma_39 ?_
  refine lv_iload_n hx hb dX6_fillLuma_42 rfl (lv_at hl 4 rfl) ?_
  refine lv_iload hx hb dX6_fillLuma_43 (lv_at hl 1 rfl) ?_
  refine lv_iload hx hb dX6_fillLuma_45 (lv_at hl 0 rfl) ?_
  obtain ⟨y8, hy8, hF⟩ := bnd_some hF
  have hf9 := wA_in hD hA9 hS
  refine va_calli (va_runS (As := [va_re ad (y5.2 b3 0), .int p1, .int y1.2, .int y2.2]) (rest := [va_re ad (y5.2 b7 ((0 : Int32)).toNatClampNeg), .ref (ad a)]) ⟨hx, hb, hml, hown, hts⟩ (kX6_lumaAt l D ct ad Z G y5 H.size ((y5.2 b3 0)) p1 y1.2 y2.2 y8 hy8) (va_cwS 4 hts gX6_fillLuma_X6_lumaAt rfl rfl rfl (by decide +kernel) ⟨Nat.le_of_ble_eq_true rfl, Nat.le_of_ble_eq_true rfl⟩) ⟨fun a U g mk q => by obtain ⟨q0, q1, qP, qK, qD, qZ, qN⟩ := q; exact ⟨q0, q1, qP, va_K.moved (u := U) (U := U.calling g mk a) (Vm.Alike.refl U.vm) qK, qD, sF.moved (u := U) (U := U.calling g mk a) (Vm.Alike.refl U.vm) qZ, nF.same rfl qN⟩, fun U hU hW => ⟨rfl, by rw [hU], by rw [hU]; exact hP, va_K.moved hW.alike hK, hD.weaken (fun _ _ _ _ => trivial), by rw [hU]; exact ((hZ.kept hS.2.1).narrow hf9).moved hW.alike, hN.warm hW⟩⟩ rfl rfl hl.1 rfl (lv_room (by simp only [List.map, va_re_cat]; exact Nat.le_of_ble_eq_true rfl)) dX6_fillLuma_47 ⟨(Nat.zero_le _), (Nat.zero_le _)⟩) hS (fun q _ h => hf9 q h) hf9 (fun r u t H locs ht hvm hw hB hz1 hk1 hS => ?_)
  obtain ⟨hP, hK9, hD9⟩ := hB
  rw [ht] at hP
  try dsimp only at hw
  subst hw
  have hD := hD9.weaken (fun _ q _ h => hf9 q.1 h)
  refine lv_bipush (v := (16 : Int32)) hx hb dX6_fillLuma_50 (by decide) ?_
  refine lv_aloadq_n hx hb dX6_fillLuma_52 rfl (lv_at hl 3 rfl) ?_
  refine W_st (st' := [.ref (ad b3), .int (16 : Int32), .int y8.2, va_re ad (y5.2 b7 ((0 : Int32)).toNatClampNeg), .ref (ad a)]) (by rw [va_some ho3]) ?_
  refine va_get (D := D) (ci := 9) (v := va_re ad (y8.1.2 b3 0)) (C := RX9) (T := TX9) (N := 20) hx hb hts (mus hf_X9) hown hK hP b3 (wld_o ct ad G y8.1 hc3 hk3 (by decide)) rfl 0 (by decide) (hts (.fieldLink RX6 46 "VideoSuite$Work" "pic" "LVideoSuite$Picture;") (mu mw_421)) (fun _ h9 => h9) rfl dX6_fillLuma_53 ?_
  obtain ⟨b9, ho9, hc9, hk9, hF⟩ := dr_some hF
  refine W_st (st' := [.ref (ad b9), .int (16 : Int32), .int y8.2, va_re ad (y5.2 b7 ((0 : Int32)).toNatClampNeg), .ref (ad a)]) (by rw [va_some ho9]) ?_
  refine va_get (D := D) (ci := 4) (v := .int (y8.1.1 b9 1)) (C := RX4) (T := TX4) (N := 18) hx hb hts (mus hf_X4) hown hK hP b9 (wld_o ct ad G y8.1 hc9 hk9 (by decide)) rfl 1 (by decide) (hts (.fieldLink RX6 83 "VideoSuite$Picture" "width" "I") (mu mw_1422)) (fun _ h9 => h9) rfl dX6_fillLuma_56 ?_
  obtain ⟨x10, ex10, hF⟩ := ltt_some hF
  refine lv_topi (fun zx10 ezx10 => ?_)
  obtain rfl : x10 = zx10 := ex10.trans ezx10.symm
  refine lv_imul hx hb dX6_fillLuma_59 ?_
  obtain ⟨x11, ex11, hF⟩ := ltt_some hF
  refine lv_topi (fun zx11 ezx11 => ?_)
  obtain rfl : x11 = zx11 := ex11.trans ezx11.symm
  refine lv_bipush (v := (16 : Int32)) hx hb dX6_fillLuma_60 (by decide) ?_
  refine lv_iload hx hb dX6_fillLuma_62 (lv_at hl 0 rfl) ?_
  refine lv_imul hx hb dX6_fillLuma_64 ?_
  obtain ⟨x12, ex12, hF⟩ := ltt_some hF
  refine lv_topi (fun zx12 ezx12 => ?_)
  obtain rfl : x12 = zx12 := ex12.trans ezx12.symm
  refine lv_iload hx hb dX6_fillLuma_65 (lv_at hl 1 rfl) ?_
  refine lv_iadd hx hb dX6_fillLuma_67 ?_
  obtain ⟨x13, ex13, hF⟩ := ltt_some hF
  refine lv_topi (fun zx13 ezx13 => ?_)
  obtain rfl : x13 = zx13 := ex13.trans ezx13.symm
  refine lv_bipush (v := (16 : Int32)) hx hb dX6_fillLuma_68 (by decide) ?_
  obtain ⟨y14, hy14, hF⟩ := bnd_some hF
  have hf9 := wA_in hD hA9 hS
  refine va_callv (va_runV (As := [va_re ad (y5.2 b7 ((0 : Int32)).toNatClampNeg), .int y8.2, .int x11, .int x13, .int (16 : Int32)]) (rest := []) ⟨hx, hb, hml, hown, hts⟩ (kX6_fillPiece l D ct ad Z G y8.1 H.size a ((y5.2 b7 ((0 : Int32)).toNatClampNeg)) y8.2 x11 x13 ((16 : Int32)) y14 hc hk hy14) (cwV 5 hts gX6_fillLuma_X6_fillPiece rfl rfl rfl (by decide +kernel) ⟨Nat.le_of_ble_eq_true rfl, Nat.le_of_ble_eq_true rfl⟩) ⟨fun a U g mk q => by obtain ⟨q0, q1, qP, qK, qD, qZ, qN⟩ := q; exact ⟨q0, q1, qP, va_K.moved (u := U) (U := U.calling g mk a) (Vm.Alike.refl U.vm) qK, qD, sF.moved (u := U) (U := U.calling g mk a) (Vm.Alike.refl U.vm) qZ, nF.same rfl qN⟩, va_recv hK hP (ci := 6) (q0 := a) rfl (wld_o ct ad G y8.1 hc hk (by decide)), fun U hU hW => ⟨rfl, by rw [hU], by rw [hU]; exact hP, va_K.moved hW.alike hK, hD.weaken (fun _ _ _ _ => trivial), by rw [hU]; exact ((hZ.kept hS.2.1).narrow hf9).moved hW.alike, hN.warm hW⟩⟩ rfl rfl hl.1 rfl (lv_room (Nat.le_of_ble_eq_true rfl)) dX6_fillLuma_70 ⟨(Nat.zero_le _), (Nat.zero_le _)⟩) hS (fun q _ h => hf9 q h) hf9 (fun u t H locs ht hvm hw hB hz1 hk1 hS => ?_)
  obtain ⟨hP, hK9, hD9⟩ := hB
  rw [ht] at hP
  have hD := hD9.weaken (fun _ q _ h => hf9 q.1 h)
  obtain rfl := Option.some.inj hF
  exact W.vret hx hb hr (fun t ht hW => ⟨⟨(), rfl, trivial, ⟨by rw [ht]; exact hP, va_K.moved hW.alike hK, hD⟩⟩, hS.F ht⟩) hS.2.2 dX6_fillLuma_73
set_option maxRecDepth 20000 in
theorem gX6_predictByLists_X4_movesAlike : GoodIn wuX6_predictByLists (wsV RX6 52 RX4 yX4_movesAlike wuX4_movesAlike) := gu_V mw_2000 mw_2001 mw_2002 mw_185 mw_2003
set_option maxRecDepth 20000 in
set_option maxRecDepth 20000 in
theorem gX6_predictByLists_X6_takeMotion : GoodIn wuX6_predictByLists (wsV RX6 58 RX6 yX6_takeMotion wuX6_takeMotion) := gu_V mw_2005 mw_2007 mw_68 mw_172 mw_2008
set_option maxRecDepth 20000 in
set_option maxRecDepth 20000 in
theorem gX6_predictByLists_X6_predictRegion : GoodIn wuX6_predictByLists (wsV RX6 62 RX6 yX6_predictRegion wuX6_predictRegion) := gu_V mw_2010 mw_2011 mw_2012 mw_172 mw_2013
theorem dX6_predictByLists_0 : decode cX6_predictByLists 0 = .ok (.iconst 1, 1) := by decide +kernel
theorem dX6_predictByLists_1 : decode cX6_predictByLists 1 = .ok (.istore_n 3, 1) := by decide +kernel
theorem dX6_predictByLists_2 : decode cX6_predictByLists 2 = .ok (.iconst 1, 1) := by decide +kernel
theorem dX6_predictByLists_3 : decode cX6_predictByLists 3 = .ok (.istore 4, 2) := by decide +kernel
theorem dX6_predictByLists_5 : decode cX6_predictByLists 5 = .ok (.iload 4, 2) := by decide +kernel
theorem dX6_predictByLists_7 : decode cX6_predictByLists 7 = .ok (.bipush 16, 2) := by decide +kernel
theorem dX6_predictByLists_9 : decode cX6_predictByLists 9 = .ok (.if_icmp .ge 32, 3) := by decide +kernel
theorem dX6_predictByLists_12 : decode cX6_predictByLists 12 = .ok (.iload_n 3, 1) := by decide +kernel
theorem dX6_predictByLists_13 : decode cX6_predictByLists 13 = .ok (.ifCond .eq 28, 3) := by decide +kernel
theorem dX6_predictByLists_16 : decode cX6_predictByLists 16 = .ok (.aload_n 1, 1) := by decide +kernel
theorem dX6_predictByLists_17 : decode cX6_predictByLists 17 = .ok (.getfield 46, 3) := by decide +kernel
theorem dX6_predictByLists_20 : decode cX6_predictByLists 20 = .ok (.bipush 16, 2) := by decide +kernel
theorem dX6_predictByLists_22 : decode cX6_predictByLists 22 = .ok (.iload_n 2, 1) := by decide +kernel
theorem dX6_predictByLists_23 : decode cX6_predictByLists 23 = .ok (.imul, 1) := by decide +kernel
theorem dX6_predictByLists_24 : decode cX6_predictByLists 24 = .ok (.bipush 16, 2) := by decide +kernel
theorem dX6_predictByLists_26 : decode cX6_predictByLists 26 = .ok (.iload_n 2, 1) := by decide +kernel
theorem dX6_predictByLists_27 : decode cX6_predictByLists 27 = .ok (.imul, 1) := by decide +kernel
theorem dX6_predictByLists_28 : decode cX6_predictByLists 28 = .ok (.iload 4, 2) := by decide +kernel
theorem dX6_predictByLists_30 : decode cX6_predictByLists 30 = .ok (.iadd, 1) := by decide +kernel
theorem dX6_predictByLists_31 : decode cX6_predictByLists 31 = .ok (.invokevirtual 52, 3) := by decide +kernel
theorem dX6_predictByLists_34 : decode cX6_predictByLists 34 = .ok (.istore_n 3, 1) := by decide +kernel
theorem dX6_predictByLists_35 : decode cX6_predictByLists 35 = .ok (.iinc 4 1, 3) := by decide +kernel
theorem dX6_predictByLists_38 : decode cX6_predictByLists 38 = .ok (.goto (-33), 3) := by decide +kernel
theorem dX6_predictByLists_41 : decode cX6_predictByLists 41 = .ok (.iload_n 3, 1) := by decide +kernel
theorem dX6_predictByLists_42 : decode cX6_predictByLists 42 = .ok (.ifCond .eq 26, 3) := by decide +kernel
theorem dX6_predictByLists_45 : decode cX6_predictByLists 45 = .ok (.aload_n 0, 1) := by decide +kernel
theorem dX6_predictByLists_46 : decode cX6_predictByLists 46 = .ok (.aload_n 1, 1) := by decide +kernel
theorem dX6_predictByLists_47 : decode cX6_predictByLists 47 = .ok (.getfield 46, 3) := by decide +kernel
theorem dX6_predictByLists_50 : decode cX6_predictByLists 50 = .ok (.bipush 16, 2) := by decide +kernel
theorem dX6_predictByLists_52 : decode cX6_predictByLists 52 = .ok (.iload_n 2, 1) := by decide +kernel
theorem dX6_predictByLists_53 : decode cX6_predictByLists 53 = .ok (.imul, 1) := by decide +kernel
theorem dX6_predictByLists_54 : decode cX6_predictByLists 54 = .ok (.invokevirtual 58, 3) := by decide +kernel
theorem dX6_predictByLists_57 : decode cX6_predictByLists 57 = .ok (.aload_n 0, 1) := by decide +kernel
theorem dX6_predictByLists_58 : decode cX6_predictByLists 58 = .ok (.aload_n 1, 1) := by decide +kernel
theorem dX6_predictByLists_59 : decode cX6_predictByLists 59 = .ok (.iload_n 2, 1) := by decide +kernel
theorem dX6_predictByLists_60 : decode cX6_predictByLists 60 = .ok (.iconst 0, 1) := by decide +kernel
theorem dX6_predictByLists_61 : decode cX6_predictByLists 61 = .ok (.bipush 16, 2) := by decide +kernel
theorem dX6_predictByLists_63 : decode cX6_predictByLists 63 = .ok (.iconst 1, 1) := by decide +kernel
theorem dX6_predictByLists_64 : decode cX6_predictByLists 64 = .ok (.invokevirtual 62, 3) := by decide +kernel
theorem dX6_predictByLists_67 : decode cX6_predictByLists 67 = .ok (.return_, 1) := by decide +kernel
theorem dX6_predictByLists_68 : decode cX6_predictByLists 68 = .ok (.iconst 0, 1) := by decide +kernel
theorem dX6_predictByLists_69 : decode cX6_predictByLists 69 = .ok (.istore 4, 2) := by decide +kernel
theorem dX6_predictByLists_71 : decode cX6_predictByLists 71 = .ok (.iload 4, 2) := by decide +kernel
theorem dX6_predictByLists_73 : decode cX6_predictByLists 73 = .ok (.iconst 4, 1) := by decide +kernel
theorem dX6_predictByLists_74 : decode cX6_predictByLists 74 = .ok (.if_icmp .ge 137, 3) := by decide +kernel
theorem dX6_predictByLists_77 : decode cX6_predictByLists 77 = .ok (.bipush 16, 2) := by decide +kernel
theorem dX6_predictByLists_79 : decode cX6_predictByLists 79 = .ok (.iload_n 2, 1) := by decide +kernel
theorem dX6_predictByLists_80 : decode cX6_predictByLists 80 = .ok (.imul, 1) := by decide +kernel
theorem dX6_predictByLists_81 : decode cX6_predictByLists 81 = .ok (.iconst 4, 1) := by decide +kernel
theorem dX6_predictByLists_82 : decode cX6_predictByLists 82 = .ok (.iload 4, 2) := by decide +kernel
theorem dX6_predictByLists_84 : decode cX6_predictByLists 84 = .ok (.imul, 1) := by decide +kernel
theorem dX6_predictByLists_85 : decode cX6_predictByLists 85 = .ok (.iadd, 1) := by decide +kernel
theorem dX6_predictByLists_86 : decode cX6_predictByLists 86 = .ok (.istore 5, 2) := by decide +kernel
theorem dX6_predictByLists_88 : decode cX6_predictByLists 88 = .ok (.aload_n 1, 1) := by decide +kernel
theorem dX6_predictByLists_89 : decode cX6_predictByLists 89 = .ok (.getfield 46, 3) := by decide +kernel
theorem dX6_predictByLists_92 : decode cX6_predictByLists 92 = .ok (.iload 5, 2) := by decide +kernel
theorem dX6_predictByLists_94 : decode cX6_predictByLists 94 = .ok (.iload 5, 2) := by decide +kernel
theorem dX6_predictByLists_96 : decode cX6_predictByLists 96 = .ok (.iconst 1, 1) := by decide +kernel
theorem dX6_predictByLists_97 : decode cX6_predictByLists 97 = .ok (.iadd, 1) := by decide +kernel
theorem dX6_predictByLists_98 : decode cX6_predictByLists 98 = .ok (.invokevirtual 52, 3) := by decide +kernel
theorem dX6_predictByLists_101 : decode cX6_predictByLists 101 = .ok (.ifCond .eq 39, 3) := by decide +kernel
theorem dX6_predictByLists_104 : decode cX6_predictByLists 104 = .ok (.aload_n 1, 1) := by decide +kernel
theorem dX6_predictByLists_105 : decode cX6_predictByLists 105 = .ok (.getfield 46, 3) := by decide +kernel
theorem dX6_predictByLists_108 : decode cX6_predictByLists 108 = .ok (.iload 5, 2) := by decide +kernel
theorem dX6_predictByLists_110 : decode cX6_predictByLists 110 = .ok (.iload 5, 2) := by decide +kernel
theorem dX6_predictByLists_112 : decode cX6_predictByLists 112 = .ok (.iconst 2, 1) := by decide +kernel
theorem dX6_predictByLists_113 : decode cX6_predictByLists 113 = .ok (.iadd, 1) := by decide +kernel
theorem dX6_predictByLists_114 : decode cX6_predictByLists 114 = .ok (.invokevirtual 52, 3) := by decide +kernel
theorem dX6_predictByLists_117 : decode cX6_predictByLists 117 = .ok (.ifCond .eq 23, 3) := by decide +kernel
theorem dX6_predictByLists_120 : decode cX6_predictByLists 120 = .ok (.aload_n 1, 1) := by decide +kernel
theorem dX6_predictByLists_121 : decode cX6_predictByLists 121 = .ok (.getfield 46, 3) := by decide +kernel
theorem dX6_predictByLists_124 : decode cX6_predictByLists 124 = .ok (.iload 5, 2) := by decide +kernel
theorem dX6_predictByLists_126 : decode cX6_predictByLists 126 = .ok (.iload 5, 2) := by decide +kernel
theorem dX6_predictByLists_128 : decode cX6_predictByLists 128 = .ok (.iconst 3, 1) := by decide +kernel
theorem dX6_predictByLists_129 : decode cX6_predictByLists 129 = .ok (.iadd, 1) := by decide +kernel
theorem dX6_predictByLists_130 : decode cX6_predictByLists 130 = .ok (.invokevirtual 52, 3) := by decide +kernel
theorem dX6_predictByLists_133 : decode cX6_predictByLists 133 = .ok (.ifCond .eq 7, 3) := by decide +kernel
theorem dX6_predictByLists_136 : decode cX6_predictByLists 136 = .ok (.iconst 1, 1) := by decide +kernel
theorem dX6_predictByLists_137 : decode cX6_predictByLists 137 = .ok (.goto 4, 3) := by decide +kernel
theorem dX6_predictByLists_140 : decode cX6_predictByLists 140 = .ok (.iconst 0, 1) := by decide +kernel
theorem dX6_predictByLists_141 : decode cX6_predictByLists 141 = .ok (.istore 6, 2) := by decide +kernel
theorem dX6_predictByLists_143 : decode cX6_predictByLists 143 = .ok (.iconst 0, 1) := by decide +kernel
theorem dX6_predictByLists_144 : decode cX6_predictByLists 144 = .ok (.istore 7, 2) := by decide +kernel
theorem dX6_predictByLists_146 : decode cX6_predictByLists 146 = .ok (.iload 7, 2) := by decide +kernel
theorem dX6_predictByLists_148 : decode cX6_predictByLists 148 = .ok (.iload 6, 2) := by decide +kernel
theorem dX6_predictByLists_150 : decode cX6_predictByLists 150 = .ok (.ifCond .eq 7, 3) := by decide +kernel
theorem dX6_predictByLists_153 : decode cX6_predictByLists 153 = .ok (.iconst 1, 1) := by decide +kernel
theorem dX6_predictByLists_154 : decode cX6_predictByLists 154 = .ok (.goto 4, 3) := by decide +kernel
theorem dX6_predictByLists_157 : decode cX6_predictByLists 157 = .ok (.iconst 4, 1) := by decide +kernel
theorem dX6_predictByLists_158 : decode cX6_predictByLists 158 = .ok (.if_icmp .ge 47, 3) := by decide +kernel
theorem dX6_predictByLists_161 : decode cX6_predictByLists 161 = .ok (.aload_n 0, 1) := by decide +kernel
theorem dX6_predictByLists_162 : decode cX6_predictByLists 162 = .ok (.aload_n 1, 1) := by decide +kernel
theorem dX6_predictByLists_163 : decode cX6_predictByLists 163 = .ok (.getfield 46, 3) := by decide +kernel
theorem dX6_predictByLists_166 : decode cX6_predictByLists 166 = .ok (.iload 5, 2) := by decide +kernel
theorem dX6_predictByLists_168 : decode cX6_predictByLists 168 = .ok (.iload 7, 2) := by decide +kernel
theorem dX6_predictByLists_170 : decode cX6_predictByLists 170 = .ok (.iadd, 1) := by decide +kernel
theorem dX6_predictByLists_171 : decode cX6_predictByLists 171 = .ok (.invokevirtual 58, 3) := by decide +kernel
theorem dX6_predictByLists_174 : decode cX6_predictByLists 174 = .ok (.aload_n 0, 1) := by decide +kernel
theorem dX6_predictByLists_175 : decode cX6_predictByLists 175 = .ok (.aload_n 1, 1) := by decide +kernel
theorem dX6_predictByLists_176 : decode cX6_predictByLists 176 = .ok (.iload_n 2, 1) := by decide +kernel
theorem dX6_predictByLists_177 : decode cX6_predictByLists 177 = .ok (.iconst 4, 1) := by decide +kernel
theorem dX6_predictByLists_178 : decode cX6_predictByLists 178 = .ok (.iload 4, 2) := by decide +kernel
theorem dX6_predictByLists_180 : decode cX6_predictByLists 180 = .ok (.imul, 1) := by decide +kernel
theorem dX6_predictByLists_181 : decode cX6_predictByLists 181 = .ok (.iload 7, 2) := by decide +kernel
theorem dX6_predictByLists_183 : decode cX6_predictByLists 183 = .ok (.iadd, 1) := by decide +kernel
theorem dX6_predictByLists_184 : decode cX6_predictByLists 184 = .ok (.iload 6, 2) := by decide +kernel
theorem dX6_predictByLists_186 : decode cX6_predictByLists 186 = .ok (.ifCond .eq 8, 3) := by decide +kernel
theorem dX6_predictByLists_189 : decode cX6_predictByLists 189 = .ok (.bipush 8, 2) := by decide +kernel
theorem dX6_predictByLists_191 : decode cX6_predictByLists 191 = .ok (.goto 4, 3) := by decide +kernel
theorem dX6_predictByLists_194 : decode cX6_predictByLists 194 = .ok (.iconst 4, 1) := by decide +kernel
theorem dX6_predictByLists_195 : decode cX6_predictByLists 195 = .ok (.iconst 1, 1) := by decide +kernel
theorem dX6_predictByLists_196 : decode cX6_predictByLists 196 = .ok (.invokevirtual 62, 3) := by decide +kernel
theorem dX6_predictByLists_199 : decode cX6_predictByLists 199 = .ok (.iinc 7 1, 3) := by decide +kernel
theorem dX6_predictByLists_202 : decode cX6_predictByLists 202 = .ok (.goto (-56), 3) := by decide +kernel
theorem dX6_predictByLists_205 : decode cX6_predictByLists 205 = .ok (.iinc 4 1, 3) := by decide +kernel
theorem dX6_predictByLists_208 : decode cX6_predictByLists 208 = .ok (.goto (-137), 3) := by decide +kernel
theorem dX6_predictByLists_211 : decode cX6_predictByLists 211 = .ok (.return_, 1) := by decide +kernel
def FX6_predictByLists (G : GG) (M : DD) (a : Nat) (p0 : Option Nat) (p1 : Int32) : Option (DD) :=
  bnd (itr (fun (s2 : Int32 × Int32 × DD) => ((if ((16 : Int32)) ≤ s2.2.1 then (some (.inr (s2.1, s2.2.1, s2.2.2))) else
  (if s2.1 = ((0 : Int32)) then (some (.inr (s2.1, s2.2.1, s2.2.2))) else
  (dr G 9 p0 fun b52 =>
  ltt ((((16 : Int32)) * p1)) fun x53 =>
  ltt ((((16 : Int32)) * p1)) fun x54 =>
  ltt ((x54 + s2.2.1)) fun x55 =>
  dr G 4 ((s2.2.2.2 b52 0)) fun b56 =>
  bnd (FX4_movesAlike G s2.2.2 b56 x53 x55) fun y57 =>
  ltt (s2.2.1 + (1 : Int32)) fun x58 =>
  some (.inl (y57.2, x58, y57.1))))) : Option ((Int32 × Int32 × DD) ⊕ (Int32 × Int32 × DD)))) 1000000 ((1 : Int32), (1 : Int32), M)) fun (y1 : Int32 × Int32 × DD) =>
  if y1.1 = ((0 : Int32)) then (bnd (itr (fun (s6 : Int32 × DD) => ((if ((4 : Int32)) ≤ s6.1 then (some (.inr (s6.1, s6.2))) else
  (ltt ((((16 : Int32)) * p1)) fun x10 =>
  ltt ((((4 : Int32)) * s6.1)) fun x11 =>
  ltt ((x10 + x11)) fun x12 =>
  dr G 9 p0 fun b13 =>
  ltt ((x12 + ((1 : Int32)))) fun x14 =>
  dr G 4 ((s6.2.2 b13 0)) fun b15 =>
  bnd (FX4_movesAlike G s6.2 b15 x12 x14) fun y16 =>
  bnd (if y16.2 = ((0 : Int32)) then (some ((0 : Int32), y16.1)) else
  (ltt ((x12 + ((2 : Int32)))) fun x35 =>
  dr G 4 ((y16.1.2 b13 0)) fun b36 =>
  bnd (FX4_movesAlike G y16.1 b36 x12 x35) fun y37 =>
  bnd (if y37.2 = ((0 : Int32)) then (some ((0 : Int32), y37.1)) else
  (ltt ((x12 + ((3 : Int32)))) fun x40 =>
  dr G 4 ((y37.1.2 b13 0)) fun b41 =>
  bnd (FX4_movesAlike G y37.1 b41 x12 x40) fun y42 =>
  bnd (if y42.2 = ((0 : Int32)) then (some ((0 : Int32))) else
  (some ((1 : Int32)))) fun (y43 : Int32) =>
  some (y43, y42.1))) fun (y38 : Int32 × DD) =>
  some (y38.1, y38.2))) fun (y17 : Int32 × DD) =>
  bnd (itr (fun (s19 : Int32 × DD) => ((bnd (if y17.1 = ((0 : Int32)) then (some ((4 : Int32))) else
  (some ((1 : Int32)))) fun (y23 : Int32) =>
  if y23 ≤ s19.1 then (some (.inr (s19.1, s19.2))) else
  (ltt ((x12 + s19.1)) fun x25 =>
  bnd (FX6_takeMotion G s19.2 a ((s19.2.2 b13 0)) x25) fun y26 =>
  ltt ((((4 : Int32)) * s6.1)) fun x27 =>
  ltt ((x27 + s19.1)) fun x28 =>
  bnd (if y17.1 = ((0 : Int32)) then (some ((4 : Int32))) else
  (some ((8 : Int32)))) fun (y29 : Int32) =>
  bnd (FX6_predictRegion G y26 a p0 p1 x28 y29 ((1 : Int32))) fun y30 =>
  ltt (s19.1 + (1 : Int32)) fun x31 =>
  some (.inl (x31, y30)))) : Option ((Int32 × DD) ⊕ (Int32 × DD)))) 1000000 ((0 : Int32), y17.2)) fun (y18 : Int32 × DD) =>
  ltt (s6.1 + (1 : Int32)) fun x21 =>
  some (.inl (x21, y18.2)))) : Option ((Int32 × DD) ⊕ (Int32 × DD)))) 1000000 ((0 : Int32), y1.2.2)) fun (y5 : Int32 × DD) =>
  some y5.2) else
  (dr G 9 p0 fun b45 =>
  ltt ((((16 : Int32)) * p1)) fun x46 =>
  bnd (FX6_takeMotion G y1.2.2 a ((y1.2.2.2 b45 0)) x46) fun y47 =>
  bnd (FX6_predictRegion G y47 a p0 p1 ((0 : Int32)) ((16 : Int32)) ((1 : Int32))) fun y48 =>
  some y48)
set_option maxHeartbeats 4000000 in
set_option maxRecDepth 100000 in
theorem kX6_predictByLists (l : Launch) (D : va_G) (ct : CT) (ad : Nat → Nat) (Z : Nat → Nat) (G : GG) (M : DD) (sz : Nat) (a : Nat) (p0 : Option Nat) (p1 : Int32) (y : DD) (hc : a < G.1) (hk : G.2.1 a = 6) (hF : FX6_predictByLists G M a p0 p1 = some y) : Met l yX6_predictByLists wuX6_predictByLists ({ frames := 4, cells := 0, slots := 0, locals := 113 }) (va_Pc [.ref (ad a), va_re ad p0, .int p1] (kB D ct ad Z G M sz)) (va_Qv (fun (_ : Unit) => True) (fun _ t => kE D ct ad G (wA ad G sz) y t) (wA ad G sz)) 0 0 (wA ad G sz) := by
  refine Met.ofW (cc := cX6_predictByLists) (maxL := 8) (ret := none) (by decide) rfl ?_
  intro p e s m args below meth c s₁ B hml hv
  obtain ⟨rfl, hsz, hP, hK, hD0, hZ, hN⟩ := hv
  have hx := B.exec
  have hb := B.bytes
  have hr := B.returns
  have hts := atoms_spec (ws := wuX6_predictByLists) B.pre
  have hown : s.vm.findClass RX6 = some m.cls := findClass_of_methodNamed B.named
  have hlocks := B.notSynchronized
  subst hsz
  have hD := wD_self (sz := s.heap.size) hD0
  have hA9 : ∀ q, s.heap.size ≤ q → wA ad G s.heap.size q := fun q h => Or.inr h
  generalize hAe : wA ad G s.heap.size = A at hD hA9 hZ ⊢
  have hS : va_S A s.heap s.heap [] := va_S.rf
  have hl := lv_entry ([.ref (ad a), va_re ad p0, .int p1]) (n := 8) (by cases p0 <;> exact Nat.le_of_ble_eq_true rfl)
  rw [lg_entry_eq]
  generalize (lg_sl ([.ref (ad a), va_re ad p0, .int p1]) ++ List.replicate (8 - (lg_sl ([.ref (ad a), va_re ad p0, .int p1])).length) Slot.unset).toArray = ls at hl ⊢
  have hl : lv_has ls 8 [(0, .ref (ad a)), (1, va_re ad p0), (2, .int p1)] := by have e9 : lv_args 0 [.ref (ad a), va_re ad p0, .int p1] = [(0, .ref (ad a)), (1, va_re ad p0), (2, .int p1)] := (by cases p0 <;> rfl); rw [e9] at hl; exact hl
  unfold FX6_predictByLists at hF
  refine lv_iconst (v := (1 : Int32)) hx hb dX6_predictByLists_0 (by decide) ?_
  refine lv_istore_n (lv' := [(3, .int (1 : Int32)), (0, .ref (ad a)), (1, va_re ad p0), (2, .int p1)]) hx hb dX6_predictByLists_1 rfl hl (by decide) rfl (fun ls hl => ?_)
  refine lv_iconst (v := (1 : Int32)) hx hb dX6_predictByLists_2 (by decide) ?_
  refine lv_istore (lv' := [(4, .int (1 : Int32)), (3, .int (1 : Int32)), (0, .ref (ad a)), (1, va_re ad p0), (2, .int p1)]) hx hb dX6_predictByLists_3 hl (by decide) rfl (fun ls hl => ?_)
  obtain ⟨y1, hy1, hF⟩ := bnd_some hF
  have K1 : ∀ (H : Heap) (locs : List Loc) (ls : Array Slot), va_P D classes (wld ct ad G y1.2.2) H → va_D A (wld ct ad G y1.2.2) → va_S A s.heap H locs → lv_has ls 8 [(4, .int y1.2.1), (3, .int y1.1), (0, .ref (ad a)), (1, va_re ad p0), (2, .int p1)] → W p l e (headSpec wuX6_predictByLists ({ frames := 4, cells := 0, slots := 0, locals := 113 })).room s m ([.ref (ad a), va_re ad p0, .int p1] : List Value).toArray below meth c H locs 0 0 (MQ below (va_Qv (fun (_ : Unit) => True) (fun _ t => kE D ct ad G A y t) A) ([.ref (ad a), va_re ad p0, .int p1] : List Value).toArray s 0 0 A) (F0 m 41 ls []) := by
    intro H locs ls hP hD hS hl
    refine lv_iload_n hx hb dX6_predictByLists_41 rfl (lv_at hl 1 rfl) ?_
    refine lv_if_eq (tgt := 68) hx hb dX6_predictByLists_42 (by decide) (fun c4 => ?_) (fun c4 => ?_)
    · rw [if_pos c4] at hF
      refine lv_iconst (v := (0 : Int32)) hx hb dX6_predictByLists_68 (by decide) ?_
      refine lv_istore (lv' := [(4, .int (0 : Int32)), (3, .int y1.1), (0, .ref (ad a)), (1, va_re ad p0), (2, .int p1)]) hx hb dX6_predictByLists_69 hl (by decide) rfl (fun ls hl => ?_)
      obtain ⟨y5, hy5, hF⟩ := bnd_some hF
      have K5 : ∀ (H : Heap) (locs : List Loc) (ls : Array Slot), va_P D classes (wld ct ad G y5.2) H → va_D A (wld ct ad G y5.2) → va_S A s.heap H locs → lv_has ls 8 [(4, .int y5.1), (3, .int y1.1), (0, .ref (ad a)), (1, va_re ad p0), (2, .int p1)] → W p l e (headSpec wuX6_predictByLists ({ frames := 4, cells := 0, slots := 0, locals := 113 })).room s m ([.ref (ad a), va_re ad p0, .int p1] : List Value).toArray below meth c H locs 0 0 (MQ below (va_Qv (fun (_ : Unit) => True) (fun _ t => kE D ct ad G A y t) A) ([.ref (ad a), va_re ad p0, .int p1] : List Value).toArray s 0 0 A) (F0 m 211 ls []) := by
        intro H locs ls hP hD hS hl
        obtain rfl := Option.some.inj hF
        exact W.vret hx hb hr (fun t ht hW => ⟨⟨(), rfl, trivial, ⟨by rw [ht]; exact hP, va_K.moved hW.alike hK, hD⟩⟩, hS.F ht⟩) hS.2.2 dX6_predictByLists_211
      clear hF
      refine itr_rule (fun (s6 : Int32 × DD) => ∀ (H : Heap) (locs : List Loc) (ls : Array Slot), va_P D classes (wld ct ad G s6.2) H → va_D A (wld ct ad G s6.2) → va_S A s.heap H locs → lv_has ls 8 [(4, .int s6.1), (3, .int y1.1), (0, .ref (ad a)), (1, va_re ad p0), (2, .int p1)] → W p l e (headSpec wuX6_predictByLists ({ frames := 4, cells := 0, slots := 0, locals := 113 })).room s m ([.ref (ad a), va_re ad p0, .int p1] : List Value).toArray below meth c H locs 0 0 (MQ below (va_Qv (fun (_ : Unit) => True) (fun _ t => kE D ct ad G A y t) A) ([.ref (ad a), va_re ad p0, .int p1] : List Value).toArray s 0 0 A) (F0 m 71 ls [])) ?_ _ _ hy5 _ _ _ hP hD hS (lv_sub hl [0, 1, 2, 3, 4] rfl)
      rintro s6 ⟨z8, hF, hwz8⟩ H locs ls hP hD hS hl
      try dsimp only at hF
      refine lv_iload hx hb dX6_predictByLists_71 (lv_at hl 0 rfl) ?_
      refine lv_iconst (v := (4 : Int32)) hx hb dX6_predictByLists_73 (by decide) ?_
      refine lv_icmp_ge (tgt := 211) hx hb dX6_predictByLists_74 (by decide) (fun c9 => ?_) (fun c9 => ?_)
      · rw [if_pos c9] at hF
        obtain rfl := Option.some.inj hF
        subst hwz8
        exact K5 _ _ _ hP hD hS (lv_sub hl [0, 1, 2, 3, 4] rfl)
      · rw [if_neg c9] at hF
        refine lv_bipush (v := (16 : Int32)) hx hb dX6_predictByLists_77 (by decide) ?_
        refine lv_iload_n hx hb dX6_predictByLists_79 rfl (lv_at hl 4 rfl) ?_
        refine lv_imul hx hb dX6_predictByLists_80 ?_
        obtain ⟨x10, ex10, hF⟩ := ltt_some hF
        refine lv_topi (fun zx10 ezx10 => ?_)
        obtain rfl : x10 = zx10 := ex10.trans ezx10.symm
        refine lv_iconst (v := (4 : Int32)) hx hb dX6_predictByLists_81 (by decide) ?_
        refine lv_iload hx hb dX6_predictByLists_82 (lv_at hl 0 rfl) ?_
        refine lv_imul hx hb dX6_predictByLists_84 ?_
        obtain ⟨x11, ex11, hF⟩ := ltt_some hF
        refine lv_topi (fun zx11 ezx11 => ?_)
        obtain rfl : x11 = zx11 := ex11.trans ezx11.symm
        refine lv_iadd hx hb dX6_predictByLists_85 ?_
        obtain ⟨x12, ex12, hF⟩ := ltt_some hF
        refine lv_topi (fun zx12 ezx12 => ?_)
        obtain rfl : x12 = zx12 := ex12.trans ezx12.symm
        refine lv_istore (lv' := [(5, .int x12), (4, .int s6.1), (3, .int y1.1), (0, .ref (ad a)), (1, va_re ad p0), (2, .int p1)]) hx hb dX6_predictByLists_86 hl (by decide) rfl (fun ls hl => ?_)
        refine lv_aloadq_n hx hb dX6_predictByLists_88 rfl (lv_at hl 4 rfl) ?_
        obtain ⟨b13, ho13, hc13, hk13, hF⟩ := dr_some hF
        refine W_st (st' := [.ref (ad b13)]) (by rw [va_some ho13]) ?_
        refine va_get (D := D) (ci := 9) (v := va_re ad (s6.2.2 b13 0)) (C := RX9) (T := TX9) (N := 20) hx hb hts (mus hf_X9) hown hK hP b13 (wld_o ct ad G s6.2 hc13 hk13 (by decide)) rfl 0 (by decide) (hts (.fieldLink RX6 46 "VideoSuite$Work" "pic" "LVideoSuite$Picture;") (mu mw_421)) (fun _ h9 => h9) rfl dX6_predictByLists_89 ?_
        refine lv_iload hx hb dX6_predictByLists_92 (lv_at hl 0 rfl) ?_
        refine lv_iload hx hb dX6_predictByLists_94 (lv_at hl 0 rfl) ?_
        refine lv_iconst (v := (1 : Int32)) hx hb dX6_predictByLists_96 (by decide) ?_
        refine lv_iadd hx hb dX6_predictByLists_97 ?_
        obtain ⟨x14, ex14, hF⟩ := ltt_some hF
        refine lv_topi (fun zx14 ezx14 => ?_)
        obtain rfl : x14 = zx14 := ex14.trans ezx14.symm
        obtain ⟨b15, ho15, hc15, hk15, hF⟩ := dr_some hF
        refine W_st (st' := [.int x14, .int x12, .ref (ad b15)]) (by rw [va_some ho15]) ?_
        obtain ⟨y16, hy16, hF⟩ := bnd_some hF
        have hf9 := wA_in hD hA9 hS
        refine va_calli (va_runV (As := [.int x12, .int x14]) (rest := []) ⟨hx, hb, hml, hown, hts⟩ (kX4_movesAlike l D ct ad Z G s6.2 H.size b15 x12 x14 y16 hc15 hk15 hy16) (cwV 2 hts gX6_predictByLists_X4_movesAlike rfl rfl rfl (by decide +kernel) ⟨Nat.le_of_ble_eq_true rfl, Nat.le_of_ble_eq_true rfl⟩) ⟨fun a U g mk q => by obtain ⟨q0, q1, qP, qK, qD, qZ, qN⟩ := q; exact ⟨q0, q1, qP, va_K.moved (u := U) (U := U.calling g mk a) (Vm.Alike.refl U.vm) qK, qD, sF.moved (u := U) (U := U.calling g mk a) (Vm.Alike.refl U.vm) qZ, nF.same rfl qN⟩, va_recv hK hP (ci := 4) (q0 := b15) rfl (wld_o ct ad G s6.2 hc15 hk15 (by decide)), fun U hU hW => ⟨rfl, by rw [hU], by rw [hU]; exact hP, va_K.moved hW.alike hK, hD.weaken (fun _ _ _ _ => trivial), by rw [hU]; exact ((hZ.kept hS.2.1).narrow hf9).moved hW.alike, hN.warm hW⟩⟩ rfl rfl hl.1 rfl (lv_room (Nat.le_of_ble_eq_true rfl)) dX6_predictByLists_98 ⟨(Nat.zero_le _), (Nat.zero_le _)⟩) hS (fun q _ h => hf9 q h) hf9 (fun r u t H locs ht hvm hw hB hz1 hk1 hS => ?_)
        obtain ⟨hP, hK9, hD9⟩ := hB
        rw [ht] at hP
        try dsimp only at hw
        subst hw
        have hD := hD9.weaken (fun _ q _ h => hf9 q.1 h)
        obtain ⟨y17, hy17, hF⟩ := bnd_some hF
        have J17 : ∀ (H : Heap) (locs : List Loc) (ls : Array Slot), va_P D classes (wld ct ad G y17.2) H → va_D A (wld ct ad G y17.2) → va_S A s.heap H locs → lv_has ls 8 [(5, .int x12), (4, .int s6.1), (3, .int y1.1), (0, .ref (ad a)), (1, va_re ad p0), (2, .int p1)] → W p l e (headSpec wuX6_predictByLists ({ frames := 4, cells := 0, slots := 0, locals := 113 })).room s m ([.ref (ad a), va_re ad p0, .int p1] : List Value).toArray below meth c H locs 0 0 (MQ below (va_Qv (fun (_ : Unit) => True) (fun _ t => kE D ct ad G A y t) A) ([.ref (ad a), va_re ad p0, .int p1] : List Value).toArray s 0 0 A) (F0 m 141 ls [.int y17.1]) := by
          intro H locs ls hP hD hS hl
          refine lv_istore (lv' := [(6, .int y17.1), (5, .int x12), (4, .int s6.1), (3, .int y1.1), (0, .ref (ad a)), (1, va_re ad p0), (2, .int p1)]) hx hb dX6_predictByLists_141 hl (by decide) rfl (fun ls hl => ?_)
          refine lv_iconst (v := (0 : Int32)) hx hb dX6_predictByLists_143 (by decide) ?_
          refine lv_istore (lv' := [(7, .int (0 : Int32)), (6, .int y17.1), (5, .int x12), (4, .int s6.1), (3, .int y1.1), (0, .ref (ad a)), (1, va_re ad p0), (2, .int p1)]) hx hb dX6_predictByLists_144 hl (by decide) rfl (fun ls hl => ?_)
          obtain ⟨y18, hy18, hF⟩ := bnd_some hF
          have K18 : ∀ (H : Heap) (locs : List Loc) (ls : Array Slot), va_P D classes (wld ct ad G y18.2) H → va_D A (wld ct ad G y18.2) → va_S A s.heap H locs → lv_has ls 8 [(7, .int y18.1), (6, .int y17.1), (5, .int x12), (4, .int s6.1), (3, .int y1.1), (0, .ref (ad a)), (1, va_re ad p0), (2, .int p1)] → W p l e (headSpec wuX6_predictByLists ({ frames := 4, cells := 0, slots := 0, locals := 113 })).room s m ([.ref (ad a), va_re ad p0, .int p1] : List Value).toArray below meth c H locs 0 0 (MQ below (va_Qv (fun (_ : Unit) => True) (fun _ t => kE D ct ad G A y t) A) ([.ref (ad a), va_re ad p0, .int p1] : List Value).toArray s 0 0 A) (F0 m 205 ls []) := by
            intro H locs ls hP hD hS hl
            obtain ⟨x21, ex21, hF⟩ := ltt_some hF
            refine lv_iinc (v := x21) (lv' := [(4, .int x21), (7, .int y18.1), (6, .int y17.1), (5, .int x12), (3, .int y1.1), (0, .ref (ad a)), (1, va_re ad p0), (2, .int p1)]) hx hb dX6_predictByLists_205 hl (k := 3) rfl (by rw [ex21]; rfl) (by decide) rfl (fun ls hl => ?_)
            refine lv_goto (tgt := 71) hx hb dX6_predictByLists_208 (by decide) ?_
            obtain rfl := Option.some.inj hF
            exact hwz8 _ _ _ hP hD hS (lv_sub hl [0, 4, 5, 6, 7] rfl)
          clear hF
          refine itr_rule (fun (s19 : Int32 × DD) => ∀ (H : Heap) (locs : List Loc) (ls : Array Slot), va_P D classes (wld ct ad G s19.2) H → va_D A (wld ct ad G s19.2) → va_S A s.heap H locs → lv_has ls 8 [(7, .int s19.1), (6, .int y17.1), (5, .int x12), (4, .int s6.1), (3, .int y1.1), (0, .ref (ad a)), (1, va_re ad p0), (2, .int p1)] → W p l e (headSpec wuX6_predictByLists ({ frames := 4, cells := 0, slots := 0, locals := 113 })).room s m ([.ref (ad a), va_re ad p0, .int p1] : List Value).toArray below meth c H locs 0 0 (MQ below (va_Qv (fun (_ : Unit) => True) (fun _ t => kE D ct ad G A y t) A) ([.ref (ad a), va_re ad p0, .int p1] : List Value).toArray s 0 0 A) (F0 m 146 ls [])) ?_ _ _ hy18 _ _ _ hP hD hS (lv_sub hl [0, 1, 2, 3, 4, 5, 6, 7] rfl)
          rintro s19 ⟨z22, hF, hwz22⟩ H locs ls hP hD hS hl
          try dsimp only at hF
          refine lv_iload hx hb dX6_predictByLists_146 (lv_at hl 0 rfl) ?_
          refine lv_iload hx hb dX6_predictByLists_148 (lv_at hl 1 rfl) ?_
          obtain ⟨y23, hy23, hF⟩ := bnd_some hF
          have J23 : ∀ (H : Heap) (locs : List Loc) (ls : Array Slot), va_P D classes (wld ct ad G s19.2) H → va_D A (wld ct ad G s19.2) → va_S A s.heap H locs → lv_has ls 8 [(7, .int s19.1), (6, .int y17.1), (5, .int x12), (4, .int s6.1), (3, .int y1.1), (0, .ref (ad a)), (1, va_re ad p0), (2, .int p1)] → W p l e (headSpec wuX6_predictByLists ({ frames := 4, cells := 0, slots := 0, locals := 113 })).room s m ([.ref (ad a), va_re ad p0, .int p1] : List Value).toArray below meth c H locs 0 0 (MQ below (va_Qv (fun (_ : Unit) => True) (fun _ t => kE D ct ad G A y t) A) ([.ref (ad a), va_re ad p0, .int p1] : List Value).toArray s 0 0 A) (F0 m 158 ls [.int y23, .int s19.1]) := by
            intro H locs ls hP hD hS hl
            refine lv_icmp_ge (tgt := 205) hx hb dX6_predictByLists_158 (by decide) (fun c24 => ?_) (fun c24 => ?_)
            · rw [if_pos c24] at hF
              obtain rfl := Option.some.inj hF
              subst hwz22
              exact K18 _ _ _ hP hD hS (lv_sub hl [0, 1, 2, 3, 4, 5, 6, 7] rfl)
            · rw [if_neg c24] at hF
              refine lv_aload_n hx hb dX6_predictByLists_161 rfl (lv_at hl 5 rfl) ?_
              refine lv_aloadq_n hx hb dX6_predictByLists_162 rfl (lv_at hl 6 rfl) ?_
              refine W_st (st' := [.ref (ad b13), .ref (ad a)]) (by rw [va_some ho13]) ?_
              refine va_get (D := D) (ci := 9) (v := va_re ad (s19.2.2 b13 0)) (C := RX9) (T := TX9) (N := 20) hx hb hts (mus hf_X9) hown hK hP b13 (wld_o ct ad G s19.2 hc13 hk13 (by decide)) rfl 0 (by decide) (hts (.fieldLink RX6 46 "VideoSuite$Work" "pic" "LVideoSuite$Picture;") (mu mw_421)) (fun _ h9 => h9) rfl dX6_predictByLists_163 ?_
              refine lv_iload hx hb dX6_predictByLists_166 (lv_at hl 2 rfl) ?_
              refine lv_iload hx hb dX6_predictByLists_168 (lv_at hl 0 rfl) ?_
              refine lv_iadd hx hb dX6_predictByLists_170 ?_
              obtain ⟨x25, ex25, hF⟩ := ltt_some hF
              refine lv_topi (fun zx25 ezx25 => ?_)
              obtain rfl : x25 = zx25 := ex25.trans ezx25.symm
              obtain ⟨y26, hy26, hF⟩ := bnd_some hF
              have hf9 := wA_in hD hA9 hS
              refine va_callv (va_runV (As := [va_re ad (s19.2.2 b13 0), .int x25]) (rest := []) ⟨hx, hb, hml, hown, hts⟩ (kX6_takeMotion l D ct ad Z G s19.2 H.size a ((s19.2.2 b13 0)) x25 y26 hc hk hy26) (cwV 2 hts gX6_predictByLists_X6_takeMotion rfl rfl rfl (by decide +kernel) ⟨Nat.le_of_ble_eq_true rfl, Nat.le_of_ble_eq_true rfl⟩) ⟨fun a U g mk q => by obtain ⟨q0, q1, qP, qK, qD, qZ, qN⟩ := q; exact ⟨q0, q1, qP, va_K.moved (u := U) (U := U.calling g mk a) (Vm.Alike.refl U.vm) qK, qD, sF.moved (u := U) (U := U.calling g mk a) (Vm.Alike.refl U.vm) qZ, nF.same rfl qN⟩, va_recv hK hP (ci := 6) (q0 := a) rfl (wld_o ct ad G s19.2 hc hk (by decide)), fun U hU hW => ⟨rfl, by rw [hU], by rw [hU]; exact hP, va_K.moved hW.alike hK, hD.weaken (fun _ _ _ _ => trivial), by rw [hU]; exact ((hZ.kept hS.2.1).narrow hf9).moved hW.alike, hN.warm hW⟩⟩ rfl rfl hl.1 rfl (lv_room (Nat.le_of_ble_eq_true rfl)) dX6_predictByLists_171 ⟨(Nat.zero_le _), (Nat.zero_le _)⟩) hS (fun q _ h => hf9 q h) hf9 (fun u t H locs ht hvm hw hB hz1 hk1 hS => ?_)
              obtain ⟨hP, hK9, hD9⟩ := hB
              rw [ht] at hP
              have hD := hD9.weaken (fun _ q _ h => hf9 q.1 h)
              refine lv_aload_n hx hb dX6_predictByLists_174 rfl (lv_at hl 5 rfl) ?_
              refine lv_aloadq_n hx hb dX6_predictByLists_175 rfl (lv_at hl 6 rfl) ?_
              refine lv_iload_n hx hb dX6_predictByLists_176 rfl (lv_at hl 7 rfl) ?_
              refine lv_iconst (v := (4 : Int32)) hx hb dX6_predictByLists_177 (by decide) ?_
              refine lv_iload hx hb dX6_predictByLists_178 (lv_at hl 3 rfl) ?_
              refine lv_imul hx hb dX6_predictByLists_180 ?_
              obtain ⟨x27, ex27, hF⟩ := ltt_some hF
              refine lv_topi (fun zx27 ezx27 => ?_)
              obtain rfl : x27 = zx27 := ex27.trans ezx27.symm
              refine lv_iload hx hb dX6_predictByLists_181 (lv_at hl 0 rfl) ?_
              refine lv_iadd hx hb dX6_predictByLists_183 ?_
              obtain ⟨x28, ex28, hF⟩ := ltt_some hF
              refine lv_topi (fun zx28 ezx28 => ?_)
              obtain rfl : x28 = zx28 := ex28.trans ezx28.symm
              refine lv_iload hx hb dX6_predictByLists_184 (lv_at hl 1 rfl) ?_
              obtain ⟨y29, hy29, hF⟩ := bnd_some hF
              have J29 : ∀ (H : Heap) (locs : List Loc) (ls : Array Slot), va_P D classes (wld ct ad G y26) H → va_D A (wld ct ad G y26) → va_S A s.heap H locs → lv_has ls 8 [(7, .int s19.1), (6, .int y17.1), (5, .int x12), (4, .int s6.1), (3, .int y1.1), (0, .ref (ad a)), (1, va_re ad p0), (2, .int p1)] → W p l e (headSpec wuX6_predictByLists ({ frames := 4, cells := 0, slots := 0, locals := 113 })).room s m ([.ref (ad a), va_re ad p0, .int p1] : List Value).toArray below meth c H locs 0 0 (MQ below (va_Qv (fun (_ : Unit) => True) (fun _ t => kE D ct ad G A y t) A) ([.ref (ad a), va_re ad p0, .int p1] : List Value).toArray s 0 0 A) (F0 m 195 ls [.int y29, .int x28, .int p1, va_re ad p0, .ref (ad a)]) := by
                intro H locs ls hP hD hS hl
                refine lv_iconst (v := (1 : Int32)) hx hb dX6_predictByLists_195 (by decide) ?_
                obtain ⟨y30, hy30, hF⟩ := bnd_some hF
                have hf9 := wA_in hD hA9 hS
                refine va_callv (va_runV (As := [va_re ad p0, .int p1, .int x28, .int y29, .int (1 : Int32)]) (rest := []) ⟨hx, hb, hml, hown, hts⟩ (kX6_predictRegion l D ct ad Z G y26 H.size a p0 p1 x28 y29 ((1 : Int32)) y30 hc hk hy30) (cwV 5 hts gX6_predictByLists_X6_predictRegion rfl rfl rfl (by decide +kernel) ⟨Nat.le_of_ble_eq_true rfl, Nat.le_of_ble_eq_true rfl⟩) ⟨fun a U g mk q => by obtain ⟨q0, q1, qP, qK, qD, qZ, qN⟩ := q; exact ⟨q0, q1, qP, va_K.moved (u := U) (U := U.calling g mk a) (Vm.Alike.refl U.vm) qK, qD, sF.moved (u := U) (U := U.calling g mk a) (Vm.Alike.refl U.vm) qZ, nF.same rfl qN⟩, va_recv hK hP (ci := 6) (q0 := a) rfl (wld_o ct ad G y26 hc hk (by decide)), fun U hU hW => ⟨rfl, by rw [hU], by rw [hU]; exact hP, va_K.moved hW.alike hK, hD.weaken (fun _ _ _ _ => trivial), by rw [hU]; exact ((hZ.kept hS.2.1).narrow hf9).moved hW.alike, hN.warm hW⟩⟩ rfl rfl hl.1 rfl (lv_room (Nat.le_of_ble_eq_true rfl)) dX6_predictByLists_196 ⟨(Nat.zero_le _), (Nat.zero_le _)⟩) hS (fun q _ h => hf9 q h) hf9 (fun u t H locs ht hvm hw hB hz1 hk1 hS => ?_)
                obtain ⟨hP, hK9, hD9⟩ := hB
                rw [ht] at hP
                have hD := hD9.weaken (fun _ q _ h => hf9 q.1 h)
                obtain ⟨x31, ex31, hF⟩ := ltt_some hF
                refine lv_iinc (v := x31) (lv' := [(7, .int x31), (6, .int y17.1), (5, .int x12), (4, .int s6.1), (3, .int y1.1), (0, .ref (ad a)), (1, va_re ad p0), (2, .int p1)]) hx hb dX6_predictByLists_199 hl (k := 0) rfl (by rw [ex31]; rfl) (by decide) rfl (fun ls hl => ?_)
                refine lv_goto (tgt := 146) hx hb dX6_predictByLists_202 (by decide) ?_
                obtain rfl := Option.some.inj hF
                exact hwz22 _ _ _ hP hD hS (lv_sub hl [0, 1, 2, 3, 4, 5, 6, 7] rfl)
              clear hF
              have hF := hy29
              clear hy29
              refine lv_if_eq (tgt := 194) hx hb dX6_predictByLists_186 (by decide) (fun c32 => ?_) (fun c32 => ?_)
              · rw [if_pos c32] at hF
                refine lv_iconst (v := (4 : Int32)) hx hb dX6_predictByLists_194 (by decide) ?_
                obtain rfl := Option.some.inj hF
                exact J29 _ _ _ hP hD hS (lv_sub hl [0, 1, 2, 3, 4, 5, 6, 7] rfl)
              · rw [if_neg c32] at hF
                refine lv_bipush (v := (8 : Int32)) hx hb dX6_predictByLists_189 (by decide) ?_
                refine lv_goto (tgt := 195) hx hb dX6_predictByLists_191 (by decide) ?_
                obtain rfl := Option.some.inj hF
                exact J29 _ _ _ hP hD hS (lv_sub hl [0, 1, 2, 3, 4, 5, 6, 7] rfl)
          clear hF
          have hF := hy23
          clear hy23
          refine lv_if_eq (tgt := 157) hx hb dX6_predictByLists_150 (by decide) (fun c33 => ?_) (fun c33 => ?_)
          · rw [if_pos c33] at hF
            refine lv_iconst (v := (4 : Int32)) hx hb dX6_predictByLists_157 (by decide) ?_
            obtain rfl := Option.some.inj hF
            exact J23 _ _ _ hP hD hS (lv_sub hl [0, 1, 2, 3, 4, 5, 6, 7] rfl)
          · rw [if_neg c33] at hF
            refine lv_iconst (v := (1 : Int32)) hx hb dX6_predictByLists_153 (by decide) ?_
            refine lv_goto (tgt := 158) hx hb dX6_predictByLists_154 (by decide) ?_
            obtain rfl := Option.some.inj hF
            exact J23 _ _ _ hP hD hS (lv_sub hl [0, 1, 2, 3, 4, 5, 6, 7] rfl)
        clear hF
        have hF := hy17
        clear hy17
        refine lv_if_eq (tgt := 140) hx hb dX6_predictByLists_101 (by decide) (fun c34 => ?_) (fun c34 => ?_)
        · rw [if_pos c34] at hF
          refine lv_iconst (v := (0 : Int32)) hx hb dX6_predictByLists_140 (by decide) ?_
          obtain rfl := Option.some.inj hF
          exact J17 _ _ _ hP hD hS (lv_sub hl [0, 1, 2, 3, 4, 5] rfl)
        · rw [if_neg c34] at hF
          refine lv_aloadq_n hx hb dX6_predictByLists_104 rfl (lv_at hl 4 rfl) ?_
          refine W_st (st' := [.ref (ad b13)]) (by rw [va_some ho13]) ?_
          refine va_get (D := D) (ci := 9) (v := va_re ad (y16.1.2 b13 0)) (C := RX9) (T := TX9) (N := 20) hx hb hts (mus hf_X9) hown hK hP b13 (wld_o ct ad G y16.1 hc13 hk13 (by decide)) rfl 0 (by decide) (hts (.fieldLink RX6 46 "VideoSuite$Work" "pic" "LVideoSuite$Picture;") (mu mw_421)) (fun _ h9 => h9) rfl dX6_predictByLists_105 ?_
          refine lv_iload hx hb dX6_predictByLists_108 (lv_at hl 0 rfl) ?_
          refine lv_iload hx hb dX6_predictByLists_110 (lv_at hl 0 rfl) ?_
          refine lv_iconst (v := (2 : Int32)) hx hb dX6_predictByLists_112 (by decide) ?_
          refine lv_iadd hx hb dX6_predictByLists_113 ?_
          obtain ⟨x35, ex35, hF⟩ := ltt_some hF
          refine lv_topi (fun zx35 ezx35 => ?_)
          obtain rfl : x35 = zx35 := ex35.trans ezx35.symm
          obtain ⟨b36, ho36, hc36, hk36, hF⟩ := dr_some hF
          refine W_st (st' := [.int x35, .int x12, .ref (ad b36)]) (by rw [va_some ho36]) ?_
          obtain ⟨y37, hy37, hF⟩ := bnd_some hF
          have hf9 := wA_in hD hA9 hS
          refine va_calli (va_runV (As := [.int x12, .int x35]) (rest := []) ⟨hx, hb, hml, hown, hts⟩ (kX4_movesAlike l D ct ad Z G y16.1 H.size b36 x12 x35 y37 hc36 hk36 hy37) (cwV 2 hts gX6_predictByLists_X4_movesAlike rfl rfl rfl (by decide +kernel) ⟨Nat.le_of_ble_eq_true rfl, Nat.le_of_ble_eq_true rfl⟩) ⟨fun a U g mk q => by obtain ⟨q0, q1, qP, qK, qD, qZ, qN⟩ := q; exact ⟨q0, q1, qP, va_K.moved (u := U) (U := U.calling g mk a) (Vm.Alike.refl U.vm) qK, qD, sF.moved (u := U) (U := U.calling g mk a) (Vm.Alike.refl U.vm) qZ, nF.same rfl qN⟩, va_recv hK hP (ci := 4) (q0 := b36) rfl (wld_o ct ad G y16.1 hc36 hk36 (by decide)), fun U hU hW => ⟨rfl, by rw [hU], by rw [hU]; exact hP, va_K.moved hW.alike hK, hD.weaken (fun _ _ _ _ => trivial), by rw [hU]; exact ((hZ.kept hS.2.1).narrow hf9).moved hW.alike, hN.warm hW⟩⟩ rfl rfl hl.1 rfl (lv_room (Nat.le_of_ble_eq_true rfl)) dX6_predictByLists_114 ⟨(Nat.zero_le _), (Nat.zero_le _)⟩) hS (fun q _ h => hf9 q h) hf9 (fun r u t H locs ht hvm hw hB hz1 hk1 hS => ?_)
          obtain ⟨hP, hK9, hD9⟩ := hB
          rw [ht] at hP
          try dsimp only at hw
          subst hw
          have hD := hD9.weaken (fun _ q _ h => hf9 q.1 h)
          obtain ⟨y38, hy38, hF⟩ := bnd_some hF
          have J38 : ∀ (H : Heap) (locs : List Loc) (ls : Array Slot), va_P D classes (wld ct ad G y38.2) H → va_D A (wld ct ad G y38.2) → va_S A s.heap H locs → lv_has ls 8 [(5, .int x12), (4, .int s6.1), (3, .int y1.1), (0, .ref (ad a)), (1, va_re ad p0), (2, .int p1)] → W p l e (headSpec wuX6_predictByLists ({ frames := 4, cells := 0, slots := 0, locals := 113 })).room s m ([.ref (ad a), va_re ad p0, .int p1] : List Value).toArray below meth c H locs 0 0 (MQ below (va_Qv (fun (_ : Unit) => True) (fun _ t => kE D ct ad G A y t) A) ([.ref (ad a), va_re ad p0, .int p1] : List Value).toArray s 0 0 A) (F0 m 141 ls [.int y38.1]) := by
            intro H locs ls hP hD hS hl
            obtain rfl := Option.some.inj hF
            exact J17 _ _ _ hP hD hS (lv_sub hl [0, 1, 2, 3, 4, 5] rfl)
          clear hF
          have hF := hy38
          clear hy38
          refine lv_if_eq (tgt := 140) hx hb dX6_predictByLists_117 (by decide) (fun c39 => ?_) (fun c39 => ?_)
          · rw [if_pos c39] at hF
            refine lv_iconst (v := (0 : Int32)) hx hb dX6_predictByLists_140 (by decide) ?_
            obtain rfl := Option.some.inj hF
            exact J38 _ _ _ hP hD hS (lv_sub hl [0, 1, 2, 3, 4, 5] rfl)
          · rw [if_neg c39] at hF
            refine lv_aloadq_n hx hb dX6_predictByLists_120 rfl (lv_at hl 4 rfl) ?_
            refine W_st (st' := [.ref (ad b13)]) (by rw [va_some ho13]) ?_
            refine va_get (D := D) (ci := 9) (v := va_re ad (y37.1.2 b13 0)) (C := RX9) (T := TX9) (N := 20) hx hb hts (mus hf_X9) hown hK hP b13 (wld_o ct ad G y37.1 hc13 hk13 (by decide)) rfl 0 (by decide) (hts (.fieldLink RX6 46 "VideoSuite$Work" "pic" "LVideoSuite$Picture;") (mu mw_421)) (fun _ h9 => h9) rfl dX6_predictByLists_121 ?_
            refine lv_iload hx hb dX6_predictByLists_124 (lv_at hl 0 rfl) ?_
            refine lv_iload hx hb dX6_predictByLists_126 (lv_at hl 0 rfl) ?_
            refine lv_iconst (v := (3 : Int32)) hx hb dX6_predictByLists_128 (by decide) ?_
            refine lv_iadd hx hb dX6_predictByLists_129 ?_
            obtain ⟨x40, ex40, hF⟩ := ltt_some hF
            refine lv_topi (fun zx40 ezx40 => ?_)
            obtain rfl : x40 = zx40 := ex40.trans ezx40.symm
            obtain ⟨b41, ho41, hc41, hk41, hF⟩ := dr_some hF
            refine W_st (st' := [.int x40, .int x12, .ref (ad b41)]) (by rw [va_some ho41]) ?_
            obtain ⟨y42, hy42, hF⟩ := bnd_some hF
            have hf9 := wA_in hD hA9 hS
            refine va_calli (va_runV (As := [.int x12, .int x40]) (rest := []) ⟨hx, hb, hml, hown, hts⟩ (kX4_movesAlike l D ct ad Z G y37.1 H.size b41 x12 x40 y42 hc41 hk41 hy42) (cwV 2 hts gX6_predictByLists_X4_movesAlike rfl rfl rfl (by decide +kernel) ⟨Nat.le_of_ble_eq_true rfl, Nat.le_of_ble_eq_true rfl⟩) ⟨fun a U g mk q => by obtain ⟨q0, q1, qP, qK, qD, qZ, qN⟩ := q; exact ⟨q0, q1, qP, va_K.moved (u := U) (U := U.calling g mk a) (Vm.Alike.refl U.vm) qK, qD, sF.moved (u := U) (U := U.calling g mk a) (Vm.Alike.refl U.vm) qZ, nF.same rfl qN⟩, va_recv hK hP (ci := 4) (q0 := b41) rfl (wld_o ct ad G y37.1 hc41 hk41 (by decide)), fun U hU hW => ⟨rfl, by rw [hU], by rw [hU]; exact hP, va_K.moved hW.alike hK, hD.weaken (fun _ _ _ _ => trivial), by rw [hU]; exact ((hZ.kept hS.2.1).narrow hf9).moved hW.alike, hN.warm hW⟩⟩ rfl rfl hl.1 rfl (lv_room (Nat.le_of_ble_eq_true rfl)) dX6_predictByLists_130 ⟨(Nat.zero_le _), (Nat.zero_le _)⟩) hS (fun q _ h => hf9 q h) hf9 (fun r u t H locs ht hvm hw hB hz1 hk1 hS => ?_)
            obtain ⟨hP, hK9, hD9⟩ := hB
            rw [ht] at hP
            try dsimp only at hw
            subst hw
            have hD := hD9.weaken (fun _ q _ h => hf9 q.1 h)
            obtain ⟨y43, hy43, hF⟩ := bnd_some hF
            have J43 : ∀ (H : Heap) (locs : List Loc) (ls : Array Slot), va_P D classes (wld ct ad G y42.1) H → va_D A (wld ct ad G y42.1) → va_S A s.heap H locs → lv_has ls 8 [(5, .int x12), (4, .int s6.1), (3, .int y1.1), (0, .ref (ad a)), (1, va_re ad p0), (2, .int p1)] → W p l e (headSpec wuX6_predictByLists ({ frames := 4, cells := 0, slots := 0, locals := 113 })).room s m ([.ref (ad a), va_re ad p0, .int p1] : List Value).toArray below meth c H locs 0 0 (MQ below (va_Qv (fun (_ : Unit) => True) (fun _ t => kE D ct ad G A y t) A) ([.ref (ad a), va_re ad p0, .int p1] : List Value).toArray s 0 0 A) (F0 m 141 ls [.int y43]) := by
              intro H locs ls hP hD hS hl
              obtain rfl := Option.some.inj hF
              exact J38 _ _ _ hP hD hS (lv_sub hl [0, 1, 2, 3, 4, 5] rfl)
            clear hF
            have hF := hy43
            clear hy43
            refine lv_if_eq (tgt := 140) hx hb dX6_predictByLists_133 (by decide) (fun c44 => ?_) (fun c44 => ?_)
            · rw [if_pos c44] at hF
              refine lv_iconst (v := (0 : Int32)) hx hb dX6_predictByLists_140 (by decide) ?_
              obtain rfl := Option.some.inj hF
              exact J43 _ _ _ hP hD hS (lv_sub hl [0, 1, 2, 3, 4, 5] rfl)
            · rw [if_neg c44] at hF
              refine lv_iconst (v := (1 : Int32)) hx hb dX6_predictByLists_136 (by decide) ?_
              refine lv_goto (tgt := 141) hx hb dX6_predictByLists_137 (by decide) ?_
              obtain rfl := Option.some.inj hF
              exact J43 _ _ _ hP hD hS (lv_sub hl [0, 1, 2, 3, 4, 5] rfl)
    · rw [if_neg c4] at hF
      refine lv_aload_n hx hb dX6_predictByLists_45 rfl (lv_at hl 2 rfl) ?_
      refine lv_aloadq_n hx hb dX6_predictByLists_46 rfl (lv_at hl 3 rfl) ?_
      obtain ⟨b45, ho45, hc45, hk45, hF⟩ := dr_some hF
      refine W_st (st' := [.ref (ad b45), .ref (ad a)]) (by rw [va_some ho45]) ?_
      refine va_get (D := D) (ci := 9) (v := va_re ad (y1.2.2.2 b45 0)) (C := RX9) (T := TX9) (N := 20) hx hb hts (mus hf_X9) hown hK hP b45 (wld_o ct ad G y1.2.2 hc45 hk45 (by decide)) rfl 0 (by decide) (hts (.fieldLink RX6 46 "VideoSuite$Work" "pic" "LVideoSuite$Picture;") (mu mw_421)) (fun _ h9 => h9) rfl dX6_predictByLists_47 ?_
      refine lv_bipush (v := (16 : Int32)) hx hb dX6_predictByLists_50 (by decide) ?_
      refine lv_iload_n hx hb dX6_predictByLists_52 rfl (lv_at hl 4 rfl) ?_
      refine lv_imul hx hb dX6_predictByLists_53 ?_
      obtain ⟨x46, ex46, hF⟩ := ltt_some hF
      refine lv_topi (fun zx46 ezx46 => ?_)
      obtain rfl : x46 = zx46 := ex46.trans ezx46.symm
      obtain ⟨y47, hy47, hF⟩ := bnd_some hF
      have hf9 := wA_in hD hA9 hS
      refine va_callv (va_runV (As := [va_re ad (y1.2.2.2 b45 0), .int x46]) (rest := []) ⟨hx, hb, hml, hown, hts⟩ (kX6_takeMotion l D ct ad Z G y1.2.2 H.size a ((y1.2.2.2 b45 0)) x46 y47 hc hk hy47) (cwV 2 hts gX6_predictByLists_X6_takeMotion rfl rfl rfl (by decide +kernel) ⟨Nat.le_of_ble_eq_true rfl, Nat.le_of_ble_eq_true rfl⟩) ⟨fun a U g mk q => by obtain ⟨q0, q1, qP, qK, qD, qZ, qN⟩ := q; exact ⟨q0, q1, qP, va_K.moved (u := U) (U := U.calling g mk a) (Vm.Alike.refl U.vm) qK, qD, sF.moved (u := U) (U := U.calling g mk a) (Vm.Alike.refl U.vm) qZ, nF.same rfl qN⟩, va_recv hK hP (ci := 6) (q0 := a) rfl (wld_o ct ad G y1.2.2 hc hk (by decide)), fun U hU hW => ⟨rfl, by rw [hU], by rw [hU]; exact hP, va_K.moved hW.alike hK, hD.weaken (fun _ _ _ _ => trivial), by rw [hU]; exact ((hZ.kept hS.2.1).narrow hf9).moved hW.alike, hN.warm hW⟩⟩ rfl rfl hl.1 rfl (lv_room (Nat.le_of_ble_eq_true rfl)) dX6_predictByLists_54 ⟨(Nat.zero_le _), (Nat.zero_le _)⟩) hS (fun q _ h => hf9 q h) hf9 (fun u t H locs ht hvm hw hB hz1 hk1 hS => ?_)
      obtain ⟨hP, hK9, hD9⟩ := hB
      rw [ht] at hP
      have hD := hD9.weaken (fun _ q _ h => hf9 q.1 h)
      refine lv_aload_n hx hb dX6_predictByLists_57 rfl (lv_at hl 2 rfl) ?_
      refine lv_aloadq_n hx hb dX6_predictByLists_58 rfl (lv_at hl 3 rfl) ?_
      refine lv_iload_n hx hb dX6_predictByLists_59 rfl (lv_at hl 4 rfl) ?_
      refine lv_iconst (v := (0 : Int32)) hx hb dX6_predictByLists_60 (by decide) ?_
      refine lv_bipush (v := (16 : Int32)) hx hb dX6_predictByLists_61 (by decide) ?_
      refine lv_iconst (v := (1 : Int32)) hx hb dX6_predictByLists_63 (by decide) ?_
      obtain ⟨y48, hy48, hF⟩ := bnd_some hF
      have hf9 := wA_in hD hA9 hS
      refine va_callv (va_runV (As := [va_re ad p0, .int p1, .int (0 : Int32), .int (16 : Int32), .int (1 : Int32)]) (rest := []) ⟨hx, hb, hml, hown, hts⟩ (kX6_predictRegion l D ct ad Z G y47 H.size a p0 p1 ((0 : Int32)) ((16 : Int32)) ((1 : Int32)) y48 hc hk hy48) (cwV 5 hts gX6_predictByLists_X6_predictRegion rfl rfl rfl (by decide +kernel) ⟨Nat.le_of_ble_eq_true rfl, Nat.le_of_ble_eq_true rfl⟩) ⟨fun a U g mk q => by obtain ⟨q0, q1, qP, qK, qD, qZ, qN⟩ := q; exact ⟨q0, q1, qP, va_K.moved (u := U) (U := U.calling g mk a) (Vm.Alike.refl U.vm) qK, qD, sF.moved (u := U) (U := U.calling g mk a) (Vm.Alike.refl U.vm) qZ, nF.same rfl qN⟩, va_recv hK hP (ci := 6) (q0 := a) rfl (wld_o ct ad G y47 hc hk (by decide)), fun U hU hW => ⟨rfl, by rw [hU], by rw [hU]; exact hP, va_K.moved hW.alike hK, hD.weaken (fun _ _ _ _ => trivial), by rw [hU]; exact ((hZ.kept hS.2.1).narrow hf9).moved hW.alike, hN.warm hW⟩⟩ rfl rfl hl.1 rfl (lv_room (Nat.le_of_ble_eq_true rfl)) dX6_predictByLists_64 ⟨(Nat.zero_le _), (Nat.zero_le _)⟩) hS (fun q _ h => hf9 q h) hf9 (fun u t H locs ht hvm hw hB hz1 hk1 hS => ?_)
      obtain ⟨hP, hK9, hD9⟩ := hB
      rw [ht] at hP
      have hD := hD9.weaken (fun _ q _ h => hf9 q.1 h)
      obtain rfl := Option.some.inj hF
      exact W.vret hx hb hr (fun t ht hW => ⟨⟨(), rfl, trivial, ⟨by rw [ht]; exact hP, va_K.moved hW.alike hK, hD⟩⟩, hS.F ht⟩) hS.2.2 dX6_predictByLists_67
  clear hF
  refine itr_rule (fun (s2 : Int32 × Int32 × DD) => ∀ (H : Heap) (locs : List Loc) (ls : Array Slot), va_P D classes (wld ct ad G s2.2.2) H → va_D A (wld ct ad G s2.2.2) → va_S A s.heap H locs → lv_has ls 8 [(4, .int s2.2.1), (3, .int s2.1), (0, .ref (ad a)), (1, va_re ad p0), (2, .int p1)] → W p l e (headSpec wuX6_predictByLists ({ frames := 4, cells := 0, slots := 0, locals := 113 })).room s m ([.ref (ad a), va_re ad p0, .int p1] : List Value).toArray below meth c H locs 0 0 (MQ below (va_Qv (fun (_ : Unit) => True) (fun _ t => kE D ct ad G A y t) A) ([.ref (ad a), va_re ad p0, .int p1] : List Value).toArray s 0 0 A) (F0 m 5 ls [])) ?_ _ _ hy1 _ _ _ hP hD hS (lv_sub hl [0, 1, 2, 3, 4] rfl)
  rintro s2 ⟨z49, hF, hwz49⟩ H locs ls hP hD hS hl
  try dsimp only at hF
  refine lv_iload hx hb dX6_predictByLists_5 (lv_at hl 0 rfl) ?_
  refine lv_bipush (v := (16 : Int32)) hx hb dX6_predictByLists_7 (by decide) ?_
  refine lv_icmp_ge (tgt := 41) hx hb dX6_predictByLists_9 (by decide) (fun c50 => ?_) (fun c50 => ?_)
  · rw [if_pos c50] at hF
    obtain rfl := Option.some.inj hF
    subst hwz49
    exact K1 _ _ _ hP hD hS (lv_sub hl [0, 1, 2, 3, 4] rfl)
  · rw [if_neg c50] at hF
    refine lv_iload_n hx hb dX6_predictByLists_12 rfl (lv_at hl 1 rfl) ?_
    refine lv_if_eq (tgt := 41) hx hb dX6_predictByLists_13 (by decide) (fun c51 => ?_) (fun c51 => ?_)
    · rw [if_pos c51] at hF
      obtain rfl := Option.some.inj hF
      subst hwz49
      exact K1 _ _ _ hP hD hS (lv_sub hl [0, 1, 2, 3, 4] rfl)
    · rw [if_neg c51] at hF
      refine lv_aloadq_n hx hb dX6_predictByLists_16 rfl (lv_at hl 3 rfl) ?_
      obtain ⟨b52, ho52, hc52, hk52, hF⟩ := dr_some hF
      refine W_st (st' := [.ref (ad b52)]) (by rw [va_some ho52]) ?_
      refine va_get (D := D) (ci := 9) (v := va_re ad (s2.2.2.2 b52 0)) (C := RX9) (T := TX9) (N := 20) hx hb hts (mus hf_X9) hown hK hP b52 (wld_o ct ad G s2.2.2 hc52 hk52 (by decide)) rfl 0 (by decide) (hts (.fieldLink RX6 46 "VideoSuite$Work" "pic" "LVideoSuite$Picture;") (mu mw_421)) (fun _ h9 => h9) rfl dX6_predictByLists_17 ?_
      refine lv_bipush (v := (16 : Int32)) hx hb dX6_predictByLists_20 (by decide) ?_
      refine lv_iload_n hx hb dX6_predictByLists_22 rfl (lv_at hl 4 rfl) ?_
      refine lv_imul hx hb dX6_predictByLists_23 ?_
      obtain ⟨x53, ex53, hF⟩ := ltt_some hF
      refine lv_topi (fun zx53 ezx53 => ?_)
      obtain rfl : x53 = zx53 := ex53.trans ezx53.symm
      refine lv_bipush (v := (16 : Int32)) hx hb dX6_predictByLists_24 (by decide) ?_
      refine lv_iload_n hx hb dX6_predictByLists_26 rfl (lv_at hl 4 rfl) ?_
      refine lv_imul hx hb dX6_predictByLists_27 ?_
      obtain ⟨x54, ex54, hF⟩ := ltt_some hF
      refine lv_topi (fun zx54 ezx54 => ?_)
      obtain rfl : x54 = zx54 := ex54.trans ezx54.symm
      refine lv_iload hx hb dX6_predictByLists_28 (lv_at hl 0 rfl) ?_
      refine lv_iadd hx hb dX6_predictByLists_30 ?_
      obtain ⟨x55, ex55, hF⟩ := ltt_some hF
      refine lv_topi (fun zx55 ezx55 => ?_)
      obtain rfl : x55 = zx55 := ex55.trans ezx55.symm
      obtain ⟨b56, ho56, hc56, hk56, hF⟩ := dr_some hF
      refine W_st (st' := [.int x55, .int x53, .ref (ad b56)]) (by rw [va_some ho56]) ?_
      obtain ⟨y57, hy57, hF⟩ := bnd_some hF
      have hf9 := wA_in hD hA9 hS
      refine va_calli (va_runV (As := [.int x53, .int x55]) (rest := []) ⟨hx, hb, hml, hown, hts⟩ (kX4_movesAlike l D ct ad Z G s2.2.2 H.size b56 x53 x55 y57 hc56 hk56 hy57) (cwV 2 hts gX6_predictByLists_X4_movesAlike rfl rfl rfl (by decide +kernel) ⟨Nat.le_of_ble_eq_true rfl, Nat.le_of_ble_eq_true rfl⟩) ⟨fun a U g mk q => by obtain ⟨q0, q1, qP, qK, qD, qZ, qN⟩ := q; exact ⟨q0, q1, qP, va_K.moved (u := U) (U := U.calling g mk a) (Vm.Alike.refl U.vm) qK, qD, sF.moved (u := U) (U := U.calling g mk a) (Vm.Alike.refl U.vm) qZ, nF.same rfl qN⟩, va_recv hK hP (ci := 4) (q0 := b56) rfl (wld_o ct ad G s2.2.2 hc56 hk56 (by decide)), fun U hU hW => ⟨rfl, by rw [hU], by rw [hU]; exact hP, va_K.moved hW.alike hK, hD.weaken (fun _ _ _ _ => trivial), by rw [hU]; exact ((hZ.kept hS.2.1).narrow hf9).moved hW.alike, hN.warm hW⟩⟩ rfl rfl hl.1 rfl (lv_room (Nat.le_of_ble_eq_true rfl)) dX6_predictByLists_31 ⟨(Nat.zero_le _), (Nat.zero_le _)⟩) hS (fun q _ h => hf9 q h) hf9 (fun r u t H locs ht hvm hw hB hz1 hk1 hS => ?_)
      obtain ⟨hP, hK9, hD9⟩ := hB
      rw [ht] at hP
      try dsimp only at hw
      subst hw
      have hD := hD9.weaken (fun _ q _ h => hf9 q.1 h)
      refine lv_istore_n (lv' := [(3, .int y57.2), (4, .int s2.2.1), (0, .ref (ad a)), (1, va_re ad p0), (2, .int p1)]) hx hb dX6_predictByLists_34 rfl hl (by decide) rfl (fun ls hl => ?_)
      obtain ⟨x58, ex58, hF⟩ := ltt_some hF
      refine lv_iinc (v := x58) (lv' := [(4, .int x58), (3, .int y57.2), (0, .ref (ad a)), (1, va_re ad p0), (2, .int p1)]) hx hb dX6_predictByLists_35 hl (k := 1) rfl (by rw [ex58]; rfl) (by decide) rfl (fun ls hl => ?_)
      refine lv_goto (tgt := 5) hx hb dX6_predictByLists_38 (by decide) ?_
      obtain rfl := Option.some.inj hF
      exact hwz49 _ _ _ hP hD hS (lv_sub hl [0, 1, 2, 3, 4] rfl)
set_option maxRecDepth 20000 in
theorem gX6_predictFour_X9_pieceX : GoodIn wuX6_predictFour (va_wsS RX6 76 yX9_pieceX wuX9_pieceX) := gu_S mw_2014 mw_949 mw_171 mw_950
set_option maxRecDepth 20000 in
set_option maxRecDepth 20000 in
theorem gX6_predictFour_X9_pieceY : GoodIn wuX6_predictFour (va_wsS RX6 80 yX9_pieceY wuX9_pieceY) := gu_S mw_2015 mw_952 mw_171 mw_953
set_option maxRecDepth 20000 in
set_option maxRecDepth 20000 in
theorem gX6_predictFour_X6_lumaAt : GoodIn wuX6_predictFour (va_wsS RX6 175 yX6_lumaAt wuX6_lumaAt) := gu_S mw_1981 mw_1982 mw_172 mw_1983
set_option maxRecDepth 20000 in
set_option maxRecDepth 20000 in
theorem gX6_predictFour_X6_takeAround : GoodIn wuX6_predictFour (wsV RX6 179 RX6 yX6_takeAround wuX6_takeAround) := gu_V mw_2114 mw_2116 mw_85 mw_172 mw_2117
set_option maxRecDepth 20000 in
set_option maxRecDepth 20000 in
theorem gX6_predictFour_X6_three : GoodIn wuX6_predictFour (wsV RX6 186 RX6 yX6_three wuX6_three) := gu_V mw_2122 mw_2124 mw_87 mw_172 mw_2125
set_option maxRecDepth 20000 in
set_option maxRecDepth 20000 in
theorem gX6_predictFour_X6_two : GoodIn wuX6_predictFour (wsV RX6 192 RX6 yX6_two wuX6_two) := gu_V mw_2130 mw_2132 mw_89 mw_172 mw_2133
set_option maxRecDepth 20000 in
theorem gX6_predictFour_X6_slant : GoodIn wuX6_predictFour (wsV RX6 189 RX6 yX6_slant wuX6_slant) := gu_V mw_2126 mw_2128 mw_88 mw_172 mw_2129
set_option maxRecDepth 20000 in
set_option maxRecDepth 20000 in
theorem gX6_predictFour_X6_meanAround : GoodIn wuX6_predictFour (wsV RX6 183 RX6 yX6_meanAround wuX6_meanAround) := gu_V mw_2118 mw_2120 mw_86 mw_172 mw_2121
set_option maxRecDepth 20000 in
theorem dX6_predictFour_0 : decode cX6_predictFour 0 = .ok (.iload_n 3, 1) := by decide +kernel
theorem dX6_predictFour_1 : decode cX6_predictFour 1 = .ok (.invokestatic 76, 3) := by decide +kernel
theorem dX6_predictFour_4 : decode cX6_predictFour 4 = .ok (.istore 6, 2) := by decide +kernel
theorem dX6_predictFour_6 : decode cX6_predictFour 6 = .ok (.iload_n 3, 1) := by decide +kernel
theorem dX6_predictFour_7 : decode cX6_predictFour 7 = .ok (.invokestatic 80, 3) := by decide +kernel
theorem dX6_predictFour_10 : decode cX6_predictFour 10 = .ok (.istore 7, 2) := by decide +kernel
theorem dX6_predictFour_12 : decode cX6_predictFour 12 = .ok (.aload_n 0, 1) := by decide +kernel
theorem dX6_predictFour_13 : decode cX6_predictFour 13 = .ok (.aload_n 1, 1) := by decide +kernel
theorem dX6_predictFour_14 : decode cX6_predictFour 14 = .ok (.getfield 46, 3) := by decide +kernel
theorem dX6_predictFour_17 : decode cX6_predictFour 17 = .ok (.aload_n 1, 1) := by decide +kernel
theorem dX6_predictFour_18 : decode cX6_predictFour 18 = .ok (.getfield 46, 3) := by decide +kernel
theorem dX6_predictFour_21 : decode cX6_predictFour 21 = .ok (.iload_n 2, 1) := by decide +kernel
theorem dX6_predictFour_22 : decode cX6_predictFour 22 = .ok (.iload 6, 2) := by decide +kernel
theorem dX6_predictFour_24 : decode cX6_predictFour 24 = .ok (.iload 7, 2) := by decide +kernel
theorem dX6_predictFour_26 : decode cX6_predictFour 26 = .ok (.invokestatic 175, 3) := by decide +kernel
theorem dX6_predictFour_29 : decode cX6_predictFour 29 = .ok (.iload 5, 2) := by decide +kernel
theorem dX6_predictFour_31 : decode cX6_predictFour 31 = .ok (.invokevirtual 179, 3) := by decide +kernel
theorem dX6_predictFour_34 : decode cX6_predictFour 34 = .ok (.iconst 0, 1) := by decide +kernel
theorem dX6_predictFour_35 : decode cX6_predictFour 35 = .ok (.istore 8, 2) := by decide +kernel
theorem dX6_predictFour_37 : decode cX6_predictFour 37 = .ok (.iload 8, 2) := by decide +kernel
theorem dX6_predictFour_39 : decode cX6_predictFour 39 = .ok (.bipush 16, 2) := by decide +kernel
theorem dX6_predictFour_41 : decode cX6_predictFour 41 = .ok (.if_icmp .ge 377, 3) := by decide +kernel
theorem dX6_predictFour_44 : decode cX6_predictFour 44 = .ok (.iload 8, 2) := by decide +kernel
theorem dX6_predictFour_46 : decode cX6_predictFour 46 = .ok (.iconst 4, 1) := by decide +kernel
theorem dX6_predictFour_47 : decode cX6_predictFour 47 = .ok (.irem, 1) := by decide +kernel
theorem dX6_predictFour_48 : decode cX6_predictFour 48 = .ok (.istore 9, 2) := by decide +kernel
theorem dX6_predictFour_50 : decode cX6_predictFour 50 = .ok (.iload 8, 2) := by decide +kernel
theorem dX6_predictFour_52 : decode cX6_predictFour 52 = .ok (.iconst 4, 1) := by decide +kernel
theorem dX6_predictFour_53 : decode cX6_predictFour 53 = .ok (.idiv, 1) := by decide +kernel
theorem dX6_predictFour_54 : decode cX6_predictFour 54 = .ok (.istore 10, 2) := by decide +kernel
theorem dX6_predictFour_56 : decode cX6_predictFour 56 = .ok (.iload 4, 2) := by decide +kernel
theorem dX6_predictFour_58 : decode cX6_predictFour 58 = .ok (.ifCond .ne 17, 3) := by decide +kernel
theorem dX6_predictFour_61 : decode cX6_predictFour 61 = .ok (.aload_n 0, 1) := by decide +kernel
theorem dX6_predictFour_62 : decode cX6_predictFour 62 = .ok (.getfield 36, 3) := by decide +kernel
theorem dX6_predictFour_65 : decode cX6_predictFour 65 = .ok (.iconst 5, 1) := by decide +kernel
theorem dX6_predictFour_66 : decode cX6_predictFour 66 = .ok (.iload 9, 2) := by decide +kernel
theorem dX6_predictFour_68 : decode cX6_predictFour 68 = .ok (.iadd, 1) := by decide +kernel
theorem dX6_predictFour_69 : decode cX6_predictFour 69 = .ok (.iaload, 1) := by decide +kernel
theorem dX6_predictFour_70 : decode cX6_predictFour 70 = .ok (.istore 11, 2) := by decide +kernel
theorem dX6_predictFour_72 : decode cX6_predictFour 72 = .ok (.goto 319, 3) := by decide +kernel
theorem dX6_predictFour_75 : decode cX6_predictFour 75 = .ok (.iload 4, 2) := by decide +kernel
theorem dX6_predictFour_77 : decode cX6_predictFour 77 = .ok (.iconst 1, 1) := by decide +kernel
theorem dX6_predictFour_78 : decode cX6_predictFour 78 = .ok (.if_icmp .ne 17, 3) := by decide +kernel
theorem dX6_predictFour_81 : decode cX6_predictFour 81 = .ok (.aload_n 0, 1) := by decide +kernel
theorem dX6_predictFour_82 : decode cX6_predictFour 82 = .ok (.getfield 36, 3) := by decide +kernel
theorem dX6_predictFour_85 : decode cX6_predictFour 85 = .ok (.iconst 3, 1) := by decide +kernel
theorem dX6_predictFour_86 : decode cX6_predictFour 86 = .ok (.iload 10, 2) := by decide +kernel
theorem dX6_predictFour_88 : decode cX6_predictFour 88 = .ok (.isub, 1) := by decide +kernel
theorem dX6_predictFour_89 : decode cX6_predictFour 89 = .ok (.iaload, 1) := by decide +kernel
theorem dX6_predictFour_90 : decode cX6_predictFour 90 = .ok (.istore 11, 2) := by decide +kernel
theorem dX6_predictFour_92 : decode cX6_predictFour 92 = .ok (.goto 299, 3) := by decide +kernel
theorem dX6_predictFour_95 : decode cX6_predictFour 95 = .ok (.iload 4, 2) := by decide +kernel
theorem dX6_predictFour_97 : decode cX6_predictFour 97 = .ok (.iconst 2, 1) := by decide +kernel
theorem dX6_predictFour_98 : decode cX6_predictFour 98 = .ok (.if_icmp .ne 14, 3) := by decide +kernel
theorem dX6_predictFour_101 : decode cX6_predictFour 101 = .ok (.aload_n 0, 1) := by decide +kernel
theorem dX6_predictFour_102 : decode cX6_predictFour 102 = .ok (.iload 5, 2) := by decide +kernel
theorem dX6_predictFour_104 : decode cX6_predictFour 104 = .ok (.invokevirtual 183, 3) := by decide +kernel
theorem dX6_predictFour_107 : decode cX6_predictFour 107 = .ok (.istore 11, 2) := by decide +kernel
theorem dX6_predictFour_109 : decode cX6_predictFour 109 = .ok (.goto 282, 3) := by decide +kernel
theorem dX6_predictFour_112 : decode cX6_predictFour 112 = .ok (.iload 4, 2) := by decide +kernel
theorem dX6_predictFour_114 : decode cX6_predictFour 114 = .ok (.iconst 3, 1) := by decide +kernel
theorem dX6_predictFour_115 : decode cX6_predictFour 115 = .ok (.if_icmp .ne 55, 3) := by decide +kernel
theorem dX6_predictFour_118 : decode cX6_predictFour 118 = .ok (.iload 8, 2) := by decide +kernel
theorem dX6_predictFour_120 : decode cX6_predictFour 120 = .ok (.bipush 15, 2) := by decide +kernel
theorem dX6_predictFour_122 : decode cX6_predictFour 122 = .ok (.if_icmp .ne 16, 3) := by decide +kernel
theorem dX6_predictFour_125 : decode cX6_predictFour 125 = .ok (.aload_n 0, 1) := by decide +kernel
theorem dX6_predictFour_126 : decode cX6_predictFour 126 = .ok (.bipush 11, 2) := by decide +kernel
theorem dX6_predictFour_128 : decode cX6_predictFour 128 = .ok (.bipush 12, 2) := by decide +kernel
theorem dX6_predictFour_130 : decode cX6_predictFour 130 = .ok (.bipush 12, 2) := by decide +kernel
theorem dX6_predictFour_132 : decode cX6_predictFour 132 = .ok (.invokevirtual 186, 3) := by decide +kernel
theorem dX6_predictFour_135 : decode cX6_predictFour 135 = .ok (.goto 30, 3) := by decide +kernel
theorem dX6_predictFour_138 : decode cX6_predictFour 138 = .ok (.aload_n 0, 1) := by decide +kernel
theorem dX6_predictFour_139 : decode cX6_predictFour 139 = .ok (.iconst 5, 1) := by decide +kernel
theorem dX6_predictFour_140 : decode cX6_predictFour 140 = .ok (.iload 9, 2) := by decide +kernel
theorem dX6_predictFour_142 : decode cX6_predictFour 142 = .ok (.iadd, 1) := by decide +kernel
theorem dX6_predictFour_143 : decode cX6_predictFour 143 = .ok (.iload 10, 2) := by decide +kernel
theorem dX6_predictFour_145 : decode cX6_predictFour 145 = .ok (.iadd, 1) := by decide +kernel
theorem dX6_predictFour_146 : decode cX6_predictFour 146 = .ok (.bipush 6, 2) := by decide +kernel
theorem dX6_predictFour_148 : decode cX6_predictFour 148 = .ok (.iload 9, 2) := by decide +kernel
theorem dX6_predictFour_150 : decode cX6_predictFour 150 = .ok (.iadd, 1) := by decide +kernel
theorem dX6_predictFour_151 : decode cX6_predictFour 151 = .ok (.iload 10, 2) := by decide +kernel
theorem dX6_predictFour_153 : decode cX6_predictFour 153 = .ok (.iadd, 1) := by decide +kernel
theorem dX6_predictFour_154 : decode cX6_predictFour 154 = .ok (.bipush 7, 2) := by decide +kernel
theorem dX6_predictFour_156 : decode cX6_predictFour 156 = .ok (.iload 9, 2) := by decide +kernel
theorem dX6_predictFour_158 : decode cX6_predictFour 158 = .ok (.iadd, 1) := by decide +kernel
theorem dX6_predictFour_159 : decode cX6_predictFour 159 = .ok (.iload 10, 2) := by decide +kernel
theorem dX6_predictFour_161 : decode cX6_predictFour 161 = .ok (.iadd, 1) := by decide +kernel
theorem dX6_predictFour_162 : decode cX6_predictFour 162 = .ok (.invokevirtual 186, 3) := by decide +kernel
theorem dX6_predictFour_165 : decode cX6_predictFour 165 = .ok (.istore 11, 2) := by decide +kernel
theorem dX6_predictFour_167 : decode cX6_predictFour 167 = .ok (.goto 224, 3) := by decide +kernel
theorem dX6_predictFour_170 : decode cX6_predictFour 170 = .ok (.iload 4, 2) := by decide +kernel
theorem dX6_predictFour_172 : decode cX6_predictFour 172 = .ok (.iconst 4, 1) := by decide +kernel
theorem dX6_predictFour_173 : decode cX6_predictFour 173 = .ok (.if_icmp .ne 33, 3) := by decide +kernel
theorem dX6_predictFour_176 : decode cX6_predictFour 176 = .ok (.aload_n 0, 1) := by decide +kernel
theorem dX6_predictFour_177 : decode cX6_predictFour 177 = .ok (.iconst 3, 1) := by decide +kernel
theorem dX6_predictFour_178 : decode cX6_predictFour 178 = .ok (.iload 9, 2) := by decide +kernel
theorem dX6_predictFour_180 : decode cX6_predictFour 180 = .ok (.iadd, 1) := by decide +kernel
theorem dX6_predictFour_181 : decode cX6_predictFour 181 = .ok (.iload 10, 2) := by decide +kernel
theorem dX6_predictFour_183 : decode cX6_predictFour 183 = .ok (.isub, 1) := by decide +kernel
theorem dX6_predictFour_184 : decode cX6_predictFour 184 = .ok (.iconst 4, 1) := by decide +kernel
theorem dX6_predictFour_185 : decode cX6_predictFour 185 = .ok (.iload 9, 2) := by decide +kernel
theorem dX6_predictFour_187 : decode cX6_predictFour 187 = .ok (.iadd, 1) := by decide +kernel
theorem dX6_predictFour_188 : decode cX6_predictFour 188 = .ok (.iload 10, 2) := by decide +kernel
theorem dX6_predictFour_190 : decode cX6_predictFour 190 = .ok (.isub, 1) := by decide +kernel
theorem dX6_predictFour_191 : decode cX6_predictFour 191 = .ok (.iconst 5, 1) := by decide +kernel
theorem dX6_predictFour_192 : decode cX6_predictFour 192 = .ok (.iload 9, 2) := by decide +kernel
theorem dX6_predictFour_194 : decode cX6_predictFour 194 = .ok (.iadd, 1) := by decide +kernel
theorem dX6_predictFour_195 : decode cX6_predictFour 195 = .ok (.iload 10, 2) := by decide +kernel
theorem dX6_predictFour_197 : decode cX6_predictFour 197 = .ok (.isub, 1) := by decide +kernel
theorem dX6_predictFour_198 : decode cX6_predictFour 198 = .ok (.invokevirtual 186, 3) := by decide +kernel
theorem dX6_predictFour_201 : decode cX6_predictFour 201 = .ok (.istore 11, 2) := by decide +kernel
theorem dX6_predictFour_203 : decode cX6_predictFour 203 = .ok (.goto 188, 3) := by decide +kernel
theorem dX6_predictFour_206 : decode cX6_predictFour 206 = .ok (.iload 4, 2) := by decide +kernel
theorem dX6_predictFour_208 : decode cX6_predictFour 208 = .ok (.iconst 5, 1) := by decide +kernel
theorem dX6_predictFour_209 : decode cX6_predictFour 209 = .ok (.if_icmp .ne 17, 3) := by decide +kernel
theorem dX6_predictFour_212 : decode cX6_predictFour 212 = .ok (.aload_n 0, 1) := by decide +kernel
theorem dX6_predictFour_213 : decode cX6_predictFour 213 = .ok (.iload 9, 2) := by decide +kernel
theorem dX6_predictFour_215 : decode cX6_predictFour 215 = .ok (.iload 10, 2) := by decide +kernel
theorem dX6_predictFour_217 : decode cX6_predictFour 217 = .ok (.iconst 1, 1) := by decide +kernel
theorem dX6_predictFour_218 : decode cX6_predictFour 218 = .ok (.invokevirtual 189, 3) := by decide +kernel
theorem dX6_predictFour_221 : decode cX6_predictFour 221 = .ok (.istore 11, 2) := by decide +kernel
theorem dX6_predictFour_223 : decode cX6_predictFour 223 = .ok (.goto 168, 3) := by decide +kernel
theorem dX6_predictFour_226 : decode cX6_predictFour 226 = .ok (.iload 4, 2) := by decide +kernel
theorem dX6_predictFour_228 : decode cX6_predictFour 228 = .ok (.bipush 6, 2) := by decide +kernel
theorem dX6_predictFour_230 : decode cX6_predictFour 230 = .ok (.if_icmp .ne 17, 3) := by decide +kernel
theorem dX6_predictFour_233 : decode cX6_predictFour 233 = .ok (.aload_n 0, 1) := by decide +kernel
theorem dX6_predictFour_234 : decode cX6_predictFour 234 = .ok (.iload 10, 2) := by decide +kernel
theorem dX6_predictFour_236 : decode cX6_predictFour 236 = .ok (.iload 9, 2) := by decide +kernel
theorem dX6_predictFour_238 : decode cX6_predictFour 238 = .ok (.iconst (-1), 1) := by decide +kernel
theorem dX6_predictFour_239 : decode cX6_predictFour 239 = .ok (.invokevirtual 189, 3) := by decide +kernel
theorem dX6_predictFour_242 : decode cX6_predictFour 242 = .ok (.istore 11, 2) := by decide +kernel
theorem dX6_predictFour_244 : decode cX6_predictFour 244 = .ok (.goto 147, 3) := by decide +kernel
theorem dX6_predictFour_247 : decode cX6_predictFour 247 = .ok (.iload 4, 2) := by decide +kernel
theorem dX6_predictFour_249 : decode cX6_predictFour 249 = .ok (.bipush 7, 2) := by decide +kernel
theorem dX6_predictFour_251 : decode cX6_predictFour 251 = .ok (.if_icmp .ne 53, 3) := by decide +kernel
theorem dX6_predictFour_254 : decode cX6_predictFour 254 = .ok (.iconst 5, 1) := by decide +kernel
theorem dX6_predictFour_255 : decode cX6_predictFour 255 = .ok (.iload 9, 2) := by decide +kernel
theorem dX6_predictFour_257 : decode cX6_predictFour 257 = .ok (.iadd, 1) := by decide +kernel
theorem dX6_predictFour_258 : decode cX6_predictFour 258 = .ok (.iload 10, 2) := by decide +kernel
theorem dX6_predictFour_260 : decode cX6_predictFour 260 = .ok (.iconst 1, 1) := by decide +kernel
theorem dX6_predictFour_261 : decode cX6_predictFour 261 = .ok (.ishr, 1) := by decide +kernel
theorem dX6_predictFour_262 : decode cX6_predictFour 262 = .ok (.iadd, 1) := by decide +kernel
theorem dX6_predictFour_263 : decode cX6_predictFour 263 = .ok (.istore 12, 2) := by decide +kernel
theorem dX6_predictFour_265 : decode cX6_predictFour 265 = .ok (.iload 10, 2) := by decide +kernel
theorem dX6_predictFour_267 : decode cX6_predictFour 267 = .ok (.iconst 2, 1) := by decide +kernel
theorem dX6_predictFour_268 : decode cX6_predictFour 268 = .ok (.irem, 1) := by decide +kernel
theorem dX6_predictFour_269 : decode cX6_predictFour 269 = .ok (.ifCond .ne 16, 3) := by decide +kernel
theorem dX6_predictFour_272 : decode cX6_predictFour 272 = .ok (.aload_n 0, 1) := by decide +kernel
theorem dX6_predictFour_273 : decode cX6_predictFour 273 = .ok (.iload 12, 2) := by decide +kernel
theorem dX6_predictFour_275 : decode cX6_predictFour 275 = .ok (.iload 12, 2) := by decide +kernel
theorem dX6_predictFour_277 : decode cX6_predictFour 277 = .ok (.iconst 1, 1) := by decide +kernel
theorem dX6_predictFour_278 : decode cX6_predictFour 278 = .ok (.iadd, 1) := by decide +kernel
theorem dX6_predictFour_279 : decode cX6_predictFour 279 = .ok (.invokevirtual 192, 3) := by decide +kernel
theorem dX6_predictFour_282 : decode cX6_predictFour 282 = .ok (.goto 17, 3) := by decide +kernel
theorem dX6_predictFour_285 : decode cX6_predictFour 285 = .ok (.aload_n 0, 1) := by decide +kernel
theorem dX6_predictFour_286 : decode cX6_predictFour 286 = .ok (.iload 12, 2) := by decide +kernel
theorem dX6_predictFour_288 : decode cX6_predictFour 288 = .ok (.iload 12, 2) := by decide +kernel
theorem dX6_predictFour_290 : decode cX6_predictFour 290 = .ok (.iconst 1, 1) := by decide +kernel
theorem dX6_predictFour_291 : decode cX6_predictFour 291 = .ok (.iadd, 1) := by decide +kernel
theorem dX6_predictFour_292 : decode cX6_predictFour 292 = .ok (.iload 12, 2) := by decide +kernel
theorem dX6_predictFour_294 : decode cX6_predictFour 294 = .ok (.iconst 2, 1) := by decide +kernel
theorem dX6_predictFour_295 : decode cX6_predictFour 295 = .ok (.iadd, 1) := by decide +kernel
theorem dX6_predictFour_296 : decode cX6_predictFour 296 = .ok (.invokevirtual 186, 3) := by decide +kernel
theorem dX6_predictFour_299 : decode cX6_predictFour 299 = .ok (.istore 11, 2) := by decide +kernel
theorem dX6_predictFour_301 : decode cX6_predictFour 301 = .ok (.goto 90, 3) := by decide +kernel
theorem dX6_predictFour_304 : decode cX6_predictFour 304 = .ok (.iconst 3, 1) := by decide +kernel
theorem dX6_predictFour_305 : decode cX6_predictFour 305 = .ok (.iload 10, 2) := by decide +kernel
theorem dX6_predictFour_307 : decode cX6_predictFour 307 = .ok (.isub, 1) := by decide +kernel
theorem dX6_predictFour_308 : decode cX6_predictFour 308 = .ok (.iload 9, 2) := by decide +kernel
theorem dX6_predictFour_310 : decode cX6_predictFour 310 = .ok (.iconst 1, 1) := by decide +kernel
theorem dX6_predictFour_311 : decode cX6_predictFour 311 = .ok (.ishr, 1) := by decide +kernel
theorem dX6_predictFour_312 : decode cX6_predictFour 312 = .ok (.isub, 1) := by decide +kernel
theorem dX6_predictFour_313 : decode cX6_predictFour 313 = .ok (.istore 12, 2) := by decide +kernel
theorem dX6_predictFour_315 : decode cX6_predictFour 315 = .ok (.iload 9, 2) := by decide +kernel
theorem dX6_predictFour_317 : decode cX6_predictFour 317 = .ok (.iconst 2, 1) := by decide +kernel
theorem dX6_predictFour_318 : decode cX6_predictFour 318 = .ok (.iload 10, 2) := by decide +kernel
theorem dX6_predictFour_320 : decode cX6_predictFour 320 = .ok (.imul, 1) := by decide +kernel
theorem dX6_predictFour_321 : decode cX6_predictFour 321 = .ok (.iadd, 1) := by decide +kernel
theorem dX6_predictFour_322 : decode cX6_predictFour 322 = .ok (.istore 13, 2) := by decide +kernel
theorem dX6_predictFour_324 : decode cX6_predictFour 324 = .ok (.iload 13, 2) := by decide +kernel
theorem dX6_predictFour_326 : decode cX6_predictFour 326 = .ok (.iconst 5, 1) := by decide +kernel
theorem dX6_predictFour_327 : decode cX6_predictFour 327 = .ok (.if_icmp .le 12, 3) := by decide +kernel
theorem dX6_predictFour_330 : decode cX6_predictFour 330 = .ok (.aload_n 0, 1) := by decide +kernel
theorem dX6_predictFour_331 : decode cX6_predictFour 331 = .ok (.getfield 36, 3) := by decide +kernel
theorem dX6_predictFour_334 : decode cX6_predictFour 334 = .ok (.iconst 0, 1) := by decide +kernel
theorem dX6_predictFour_335 : decode cX6_predictFour 335 = .ok (.iaload, 1) := by decide +kernel
theorem dX6_predictFour_336 : decode cX6_predictFour 336 = .ok (.goto 53, 3) := by decide +kernel
theorem dX6_predictFour_339 : decode cX6_predictFour 339 = .ok (.iload 13, 2) := by decide +kernel
theorem dX6_predictFour_341 : decode cX6_predictFour 341 = .ok (.iconst 5, 1) := by decide +kernel
theorem dX6_predictFour_342 : decode cX6_predictFour 342 = .ok (.if_icmp .ne 13, 3) := by decide +kernel
theorem dX6_predictFour_345 : decode cX6_predictFour 345 = .ok (.aload_n 0, 1) := by decide +kernel
theorem dX6_predictFour_346 : decode cX6_predictFour 346 = .ok (.iconst 1, 1) := by decide +kernel
theorem dX6_predictFour_347 : decode cX6_predictFour 347 = .ok (.iconst 0, 1) := by decide +kernel
theorem dX6_predictFour_348 : decode cX6_predictFour 348 = .ok (.iconst 0, 1) := by decide +kernel
theorem dX6_predictFour_349 : decode cX6_predictFour 349 = .ok (.invokevirtual 186, 3) := by decide +kernel
theorem dX6_predictFour_352 : decode cX6_predictFour 352 = .ok (.goto 37, 3) := by decide +kernel
theorem dX6_predictFour_355 : decode cX6_predictFour 355 = .ok (.iload 13, 2) := by decide +kernel
theorem dX6_predictFour_357 : decode cX6_predictFour 357 = .ok (.iconst 2, 1) := by decide +kernel
theorem dX6_predictFour_358 : decode cX6_predictFour 358 = .ok (.irem, 1) := by decide +kernel
theorem dX6_predictFour_359 : decode cX6_predictFour 359 = .ok (.ifCond .ne 16, 3) := by decide +kernel
theorem dX6_predictFour_362 : decode cX6_predictFour 362 = .ok (.aload_n 0, 1) := by decide +kernel
theorem dX6_predictFour_363 : decode cX6_predictFour 363 = .ok (.iload 12, 2) := by decide +kernel
theorem dX6_predictFour_365 : decode cX6_predictFour 365 = .ok (.iload 12, 2) := by decide +kernel
theorem dX6_predictFour_367 : decode cX6_predictFour 367 = .ok (.iconst 1, 1) := by decide +kernel
theorem dX6_predictFour_368 : decode cX6_predictFour 368 = .ok (.isub, 1) := by decide +kernel
theorem dX6_predictFour_369 : decode cX6_predictFour 369 = .ok (.invokevirtual 192, 3) := by decide +kernel
theorem dX6_predictFour_372 : decode cX6_predictFour 372 = .ok (.goto 17, 3) := by decide +kernel
theorem dX6_predictFour_375 : decode cX6_predictFour 375 = .ok (.aload_n 0, 1) := by decide +kernel
theorem dX6_predictFour_376 : decode cX6_predictFour 376 = .ok (.iload 12, 2) := by decide +kernel
theorem dX6_predictFour_378 : decode cX6_predictFour 378 = .ok (.iload 12, 2) := by decide +kernel
theorem dX6_predictFour_380 : decode cX6_predictFour 380 = .ok (.iconst 1, 1) := by decide +kernel
theorem dX6_predictFour_381 : decode cX6_predictFour 381 = .ok (.isub, 1) := by decide +kernel
theorem dX6_predictFour_382 : decode cX6_predictFour 382 = .ok (.iload 12, 2) := by decide +kernel
theorem dX6_predictFour_384 : decode cX6_predictFour 384 = .ok (.iconst 2, 1) := by decide +kernel
theorem dX6_predictFour_385 : decode cX6_predictFour 385 = .ok (.isub, 1) := by decide +kernel
theorem dX6_predictFour_386 : decode cX6_predictFour 386 = .ok (.invokevirtual 186, 3) := by decide +kernel
theorem dX6_predictFour_389 : decode cX6_predictFour 389 = .ok (.istore 11, 2) := by decide +kernel
theorem dX6_predictFour_391 : decode cX6_predictFour 391 = .ok (.aload_n 0, 1) := by decide +kernel
theorem dX6_predictFour_392 : decode cX6_predictFour 392 = .ok (.getfield 9, 3) := by decide +kernel
theorem dX6_predictFour_395 : decode cX6_predictFour 395 = .ok (.iload 7, 2) := by decide +kernel
theorem dX6_predictFour_397 : decode cX6_predictFour 397 = .ok (.iload 10, 2) := by decide +kernel
theorem dX6_predictFour_399 : decode cX6_predictFour 399 = .ok (.iadd, 1) := by decide +kernel
theorem dX6_predictFour_400 : decode cX6_predictFour 400 = .ok (.bipush 16, 2) := by decide +kernel
theorem dX6_predictFour_402 : decode cX6_predictFour 402 = .ok (.imul, 1) := by decide +kernel
theorem dX6_predictFour_403 : decode cX6_predictFour 403 = .ok (.iload 6, 2) := by decide +kernel
theorem dX6_predictFour_405 : decode cX6_predictFour 405 = .ok (.iadd, 1) := by decide +kernel
theorem dX6_predictFour_406 : decode cX6_predictFour 406 = .ok (.iload 9, 2) := by decide +kernel
theorem dX6_predictFour_408 : decode cX6_predictFour 408 = .ok (.iadd, 1) := by decide +kernel
theorem dX6_predictFour_409 : decode cX6_predictFour 409 = .ok (.iload 11, 2) := by decide +kernel
theorem dX6_predictFour_411 : decode cX6_predictFour 411 = .ok (.iastore, 1) := by decide +kernel
theorem dX6_predictFour_412 : decode cX6_predictFour 412 = .ok (.iinc 8 1, 3) := by decide +kernel
theorem dX6_predictFour_415 : decode cX6_predictFour 415 = .ok (.goto (-378), 3) := by decide +kernel
theorem dX6_predictFour_418 : decode cX6_predictFour 418 = .ok (.return_, 1) := by decide +kernel
def FX6_predictFour (G : GG) (M : DD) (a : Nat) (p0 : Option Nat) (p1 : Int32) (p2 : Int32) (p3 : Int32) (p4 : Int32) : Option (DD) :=
  bnd (FX9_pieceX G M p2) fun y1 =>
  bnd (FX9_pieceY G y1.1 p2) fun y2 =>
  dr G 9 p0 fun b3 =>
  bnd (FX6_lumaAt G y2.1 ((y2.1.2 b3 0)) p1 y1.2 y2.2) fun y4 =>
  bnd (FX6_takeAround G y4.1 a ((y2.1.2 b3 0)) y4.2 p4) fun y5 =>
  bnd (itr (fun (s7 : Int32 × DD) => ((if ((16 : Int32)) ≤ s7.1 then (some (.inr (s7.1, s7.2))) else
  (ltt (s7.1 - s7.1 / ((4 : Int32)) * ((4 : Int32))) fun x11 =>
  ltt (s7.1 / ((4 : Int32))) fun x12 =>
  bnd (if p3 = ((0 : Int32)) then (ltt ((((5 : Int32)) + x11)) fun x90 =>
  dr G 13 ((s7.2.2 a 8)) fun b91 =>
  chk (¬ (x90 < 0 ∨ G.2.2 b91 ≤ x90.toNatClampNeg)) <|
  ltt (s7.2.1 b91 x90.toNatClampNeg) fun x92 =>
  some (x92, s7.2)) else
  (bnd (if p3 = ((1 : Int32)) then (ltt ((((3 : Int32)) - x12)) fun x87 =>
  dr G 13 ((s7.2.2 a 8)) fun b88 =>
  chk (¬ (x87 < 0 ∨ G.2.2 b88 ≤ x87.toNatClampNeg)) <|
  ltt (s7.2.1 b88 x87.toNatClampNeg) fun x89 =>
  some (x89, s7.2)) else
  (bnd (if p3 = ((2 : Int32)) then (bnd (FX6_meanAround G s7.2 a p4) fun y86 =>
  some (y86.2, y86.1)) else
  (bnd (if p3 = ((3 : Int32)) then (bnd (if s7.1 = ((15 : Int32)) then (bnd (FX6_three G s7.2 a ((11 : Int32)) ((12 : Int32)) ((12 : Int32))) fun y85 =>
  some (y85.2, y85.1)) else
  (ltt ((((5 : Int32)) + x11)) fun x78 =>
  ltt ((x78 + x12)) fun x79 =>
  ltt ((((6 : Int32)) + x11)) fun x80 =>
  ltt ((x80 + x12)) fun x81 =>
  ltt ((((7 : Int32)) + x11)) fun x82 =>
  ltt ((x82 + x12)) fun x83 =>
  bnd (FX6_three G s7.2 a x79 x81 x83) fun y84 =>
  some (y84.2, y84.1))) fun (y76 : Int32 × DD) =>
  some (y76.1, y76.2)) else
  (bnd (if p3 = ((4 : Int32)) then (ltt ((((3 : Int32)) + x11)) fun x69 =>
  ltt ((x69 - x12)) fun x70 =>
  ltt ((((4 : Int32)) + x11)) fun x71 =>
  ltt ((x71 - x12)) fun x72 =>
  ltt ((((5 : Int32)) + x11)) fun x73 =>
  ltt ((x73 - x12)) fun x74 =>
  bnd (FX6_three G s7.2 a x70 x72 x74) fun y75 =>
  some (y75.2, y75.1)) else
  (bnd (if p3 = ((5 : Int32)) then (bnd (FX6_slant G s7.2 a x11 x12 ((1 : Int32))) fun y68 =>
  some (y68.2, y68.1)) else
  (bnd (if p3 = ((6 : Int32)) then (bnd (FX6_slant G s7.2 a x12 x11 ((-1 : Int32))) fun y67 =>
  some (y67.2, y67.1)) else
  (bnd (if p3 = ((7 : Int32)) then (ltt ((((5 : Int32)) + x11)) fun x56 =>
  ltt ((x12 >>> (((1 : Int32)) &&& 31))) fun x57 =>
  ltt ((x56 + x57)) fun x58 =>
  ltt (x12 - x12 / ((2 : Int32)) * ((2 : Int32))) fun x59 =>
  bnd (if x59 = ((0 : Int32)) then (ltt ((x58 + ((1 : Int32)))) fun x65 =>
  bnd (FX6_two G s7.2 a x58 x65) fun y66 =>
  some (y66.2, y66.1)) else
  (ltt ((x58 + ((1 : Int32)))) fun x62 =>
  ltt ((x58 + ((2 : Int32)))) fun x63 =>
  bnd (FX6_three G s7.2 a x58 x62 x63) fun y64 =>
  some (y64.2, y64.1))) fun (y60 : Int32 × DD) =>
  some (y60.1, x58, y60.2)) else
  (ltt ((((3 : Int32)) - x12)) fun x36 =>
  ltt ((x11 >>> (((1 : Int32)) &&& 31))) fun x37 =>
  ltt ((x36 - x37)) fun x38 =>
  ltt ((((2 : Int32)) * x12)) fun x39 =>
  ltt ((x11 + x39)) fun x40 =>
  bnd (if x40 ≤ ((5 : Int32)) then (bnd (if x40 = ((5 : Int32)) then (bnd (FX6_three G s7.2 a ((1 : Int32)) ((0 : Int32)) ((0 : Int32))) fun y53 =>
  some (y53.2, y53.1)) else
  (ltt (x40 - x40 / ((2 : Int32)) * ((2 : Int32))) fun x45 =>
  bnd (if x45 = ((0 : Int32)) then (ltt ((x38 - ((1 : Int32)))) fun x51 =>
  bnd (FX6_two G s7.2 a x38 x51) fun y52 =>
  some (y52.2, y52.1)) else
  (ltt ((x38 - ((1 : Int32)))) fun x48 =>
  ltt ((x38 - ((2 : Int32)))) fun x49 =>
  bnd (FX6_three G s7.2 a x38 x48 x49) fun y50 =>
  some (y50.2, y50.1))) fun (y46 : Int32 × DD) =>
  some (y46.1, y46.2))) fun (y43 : Int32 × DD) =>
  some (y43.1, y43.2)) else
  (dr G 13 ((s7.2.2 a 8)) fun b54 =>
  chk (¬ (((0 : Int32)) < 0 ∨ G.2.2 b54 ≤ ((0 : Int32)).toNatClampNeg)) <|
  ltt (s7.2.1 b54 ((0 : Int32)).toNatClampNeg) fun x55 =>
  some (x55, s7.2))) fun (y41 : Int32 × DD) =>
  some (y41.1, x38, y41.2))) fun (y34 : Int32 × Int32 × DD) =>
  some (y34.1, y34.2.2))) fun (y32 : Int32 × DD) =>
  some (y32.1, y32.2))) fun (y30 : Int32 × DD) =>
  some (y30.1, y30.2))) fun (y28 : Int32 × DD) =>
  some (y28.1, y28.2))) fun (y26 : Int32 × DD) =>
  some (y26.1, y26.2))) fun (y24 : Int32 × DD) =>
  some (y24.1, y24.2))) fun (y22 : Int32 × DD) =>
  some (y22.1, y22.2))) fun (y13 : Int32 × DD) =>
  ltt ((y2.2 + x12)) fun x14 =>
  ltt ((x14 * ((16 : Int32)))) fun x15 =>
  ltt ((x15 + y1.2)) fun x16 =>
  ltt ((x16 + x11)) fun x17 =>
  dr G 13 ((y13.2.2 a 0)) fun b18 =>
  chk (¬ (x17 < 0 ∨ G.2.2 b18 ≤ x17.toNatClampNeg)) <|
  ltt (uI y13.2 b18 x17.toNatClampNeg y13.1) fun M19 =>
  ltt (s7.1 + (1 : Int32)) fun x20 =>
  some (.inl (x20, M19)))) : Option ((Int32 × DD) ⊕ (Int32 × DD)))) 1000000 ((0 : Int32), y5)) fun (y6 : Int32 × DD) =>
  some y6.2
set_option maxHeartbeats 4000000 in
set_option maxRecDepth 100000 in
theorem kX6_predictFour (l : Launch) (D : va_G) (ct : CT) (ad : Nat → Nat) (Z : Nat → Nat) (G : GG) (M : DD) (sz : Nat) (a : Nat) (p0 : Option Nat) (p1 : Int32) (p2 : Int32) (p3 : Int32) (p4 : Int32) (y : DD) (hc : a < G.1) (hk : G.2.1 a = 6) (hF : FX6_predictFour G M a p0 p1 p2 p3 p4 = some y) : Met l yX6_predictFour wuX6_predictFour ({ frames := 2, cells := 0, slots := 0, locals := 49 }) (va_Pc [.ref (ad a), va_re ad p0, .int p1, .int p2, .int p3, .int p4] (kB D ct ad Z G M sz)) (va_Qv (fun (_ : Unit) => True) (fun _ t => kE D ct ad G (wA ad G sz) y t) (wA ad G sz)) 0 0 (wA ad G sz) := by
  refine Met.ofW (cc := cX6_predictFour) (maxL := 14) (ret := none) (by decide) rfl ?_
  intro p e s m args below meth c s₁ B hml hv
  obtain ⟨rfl, hsz, hP, hK, hD0, hZ, hN⟩ := hv
  have hx := B.exec
  have hb := B.bytes
  have hr := B.returns
  have hts := atoms_spec (ws := wuX6_predictFour) B.pre
  have hown : s.vm.findClass RX6 = some m.cls := findClass_of_methodNamed B.named
  have hlocks := B.notSynchronized
  subst hsz
  have hD := wD_self (sz := s.heap.size) hD0
  have hA9 : ∀ q, s.heap.size ≤ q → wA ad G s.heap.size q := fun q h => Or.inr h
  generalize hAe : wA ad G s.heap.size = A at hD hA9 hZ ⊢
  have hS : va_S A s.heap s.heap [] := va_S.rf
  have hl := lv_entry ([.ref (ad a), va_re ad p0, .int p1, .int p2, .int p3, .int p4]) (n := 14) (by cases p0 <;> exact Nat.le_of_ble_eq_true rfl)
  rw [lg_entry_eq]
  generalize (lg_sl ([.ref (ad a), va_re ad p0, .int p1, .int p2, .int p3, .int p4]) ++ List.replicate (14 - (lg_sl ([.ref (ad a), va_re ad p0, .int p1, .int p2, .int p3, .int p4])).length) Slot.unset).toArray = ls at hl ⊢
  have hl : lv_has ls 14 [(0, .ref (ad a)), (1, va_re ad p0), (2, .int p1), (3, .int p2), (4, .int p3), (5, .int p4)] := by have e9 : lv_args 0 [.ref (ad a), va_re ad p0, .int p1, .int p2, .int p3, .int p4] = [(0, .ref (ad a)), (1, va_re ad p0), (2, .int p1), (3, .int p2), (4, .int p3), (5, .int p4)] := (by cases p0 <;> rfl); rw [e9] at hl; exact hl
  unfold FX6_predictFour at hF
  refine lv_iload_n hx hb dX6_predictFour_0 rfl (lv_at hl 3 rfl) ?_
  obtain ⟨y1, hy1, hF⟩ := bnd_some hF
  have hf9 := wA_in hD hA9 hS
  refine va_calli (va_runS (As := [.int p2]) (rest := []) ⟨hx, hb, hml, hown, hts⟩ (kX9_pieceX l D ct ad Z G M s.heap.size p2 y1 hy1) (va_cwS 1 hts gX6_predictFour_X9_pieceX rfl rfl rfl (by decide +kernel) ⟨Nat.le_of_ble_eq_true rfl, Nat.le_of_ble_eq_true rfl⟩) ⟨fun a U g mk q => by obtain ⟨q0, q1, qP, qK, qD, qZ, qN⟩ := q; exact ⟨q0, q1, qP, va_K.moved (u := U) (U := U.calling g mk a) (Vm.Alike.refl U.vm) qK, qD, sF.moved (u := U) (U := U.calling g mk a) (Vm.Alike.refl U.vm) qZ, nF.same rfl qN⟩, fun U hU hW => ⟨rfl, by rw [hU], by rw [hU]; exact hP, va_K.moved hW.alike hK, hD.weaken (fun _ _ _ _ => trivial), by rw [hU]; exact ((hZ.kept hS.2.1).narrow hf9).moved hW.alike, hN.warm hW⟩⟩ rfl rfl hl.1 rfl (lv_room (Nat.le_of_ble_eq_true rfl)) dX6_predictFour_1 ⟨(Nat.zero_le _), (Nat.zero_le _)⟩) hS (fun q _ h => hf9 q h) hf9 (fun r u t H locs ht hvm hw hB hz1 hk1 hS => ?_)
  obtain ⟨hP, hK9, hD9⟩ := hB
  rw [ht] at hP
  try dsimp only at hw
  subst hw
  have hD := hD9.weaken (fun _ q _ h => hf9 q.1 h)
  refine lv_istore (lv' := [(6, .int y1.2), (0, .ref (ad a)), (1, va_re ad p0), (2, .int p1), (3, .int p2), (4, .int p3), (5, .int p4)]) hx hb dX6_predictFour_4 hl (by decide) rfl (fun ls hl => ?_)
  refine lv_iload_n hx hb dX6_predictFour_6 rfl (lv_at hl 4 rfl) ?_
  obtain ⟨y2, hy2, hF⟩ := bnd_some hF
  have hf9 := wA_in hD hA9 hS
  refine va_calli (va_runS (As := [.int p2]) (rest := []) ⟨hx, hb, hml, hown, hts⟩ (kX9_pieceY l D ct ad Z G y1.1 H.size p2 y2 hy2) (va_cwS 1 hts gX6_predictFour_X9_pieceY rfl rfl rfl (by decide +kernel) ⟨Nat.le_of_ble_eq_true rfl, Nat.le_of_ble_eq_true rfl⟩) ⟨fun a U g mk q => by obtain ⟨q0, q1, qP, qK, qD, qZ, qN⟩ := q; exact ⟨q0, q1, qP, va_K.moved (u := U) (U := U.calling g mk a) (Vm.Alike.refl U.vm) qK, qD, sF.moved (u := U) (U := U.calling g mk a) (Vm.Alike.refl U.vm) qZ, nF.same rfl qN⟩, fun U hU hW => ⟨rfl, by rw [hU], by rw [hU]; exact hP, va_K.moved hW.alike hK, hD.weaken (fun _ _ _ _ => trivial), by rw [hU]; exact ((hZ.kept hS.2.1).narrow hf9).moved hW.alike, hN.warm hW⟩⟩ rfl rfl hl.1 rfl (lv_room (Nat.le_of_ble_eq_true rfl)) dX6_predictFour_7 ⟨(Nat.zero_le _), (Nat.zero_le _)⟩) hS (fun q _ h => hf9 q h) hf9 (fun r u t H locs ht hvm hw hB hz1 hk1 hS => ?_)
  obtain ⟨hP, hK9, hD9⟩ := hB
  rw [ht] at hP
  try dsimp only at hw
  subst hw
  have hD := hD9.weaken (fun _ q _ h => hf9 q.1 h)
  refine lv_istore (lv' := [(7, .int y2.2), (6, .int y1.2), (0, .ref (ad a)), (1, va_re ad p0), (2, .int p1), (3, .int p2), (4, .int p3), (5, .int p4)]) hx hb dX6_predictFour_10 hl (by decide) rfl (fun ls hl => ?_)
  refine lv_aload_n hx hb dX6_predictFour_12 rfl (lv_at hl 2 rfl) ?_
  refine lv_aloadq_n hx hb dX6_predictFour_13 rfl (lv_at hl 3 rfl) ?_
  obtain ⟨b3, ho3, hc3, hk3, hF⟩ := dr_some hF
  refine W_st (st' := [.ref (ad b3), .ref (ad a)]) (by rw [va_some ho3]) ?_
  refine va_get (D := D) (ci := 9) (v := va_re ad (y2.1.2 b3 0)) (C := RX9) (T := TX9) (N := 20) hx hb hts (mus hf_X9) hown hK hP b3 (wld_o ct ad G y2.1 hc3 hk3 (by decide)) rfl 0 (by decide) (hts (.fieldLink RX6 46 "VideoSuite$Work" "pic" "LVideoSuite$Picture;") (mu mw_421)) (fun _ h9 => h9) rfl dX6_predictFour_14 ?_
  refine lv_aloadq_n hx hb dX6_predictFour_17 rfl (lv_at hl 3 rfl) ?_
  refine W_st (st' := [.ref (ad b3), va_re ad (y2.1.2 b3 0), .ref (ad a)]) (by rw [va_some ho3]) ?_
  refine va_get (D := D) (ci := 9) (v := va_re ad (y2.1.2 b3 0)) (C := RX9) (T := TX9) (N := 20) hx hb hts (mus hf_X9) hown hK hP b3 (wld_o ct ad G y2.1 hc3 hk3 (by decide)) rfl 0 (by decide) (hts (.fieldLink RX6 46 "VideoSuite$Work" "pic" "LVideoSuite$Picture;") (mu mw_421)) (fun _ h9 => h9) rfl dX6_predictFour_18 ?_
  refine lv_iload_n hx hb dX6_predictFour_21 rfl (lv_at hl 4 rfl) ?_
  refine lv_iload hx hb dX6_predictFour_22 (lv_at hl 1 rfl) ?_
  refine lv_iload hx hb dX6_predictFour_24 (lv_at hl 0 rfl) ?_
  obtain ⟨y4, hy4, hF⟩ := bnd_some hF
  have hf9 := wA_in hD hA9 hS
  refine va_calli (va_runS (As := [va_re ad (y2.1.2 b3 0), .int p1, .int y1.2, .int y2.2]) (rest := [va_re ad (y2.1.2 b3 0), .ref (ad a)]) ⟨hx, hb, hml, hown, hts⟩ (kX6_lumaAt l D ct ad Z G y2.1 H.size ((y2.1.2 b3 0)) p1 y1.2 y2.2 y4 hy4) (va_cwS 4 hts gX6_predictFour_X6_lumaAt rfl rfl rfl (by decide +kernel) ⟨Nat.le_of_ble_eq_true rfl, Nat.le_of_ble_eq_true rfl⟩) ⟨fun a U g mk q => by obtain ⟨q0, q1, qP, qK, qD, qZ, qN⟩ := q; exact ⟨q0, q1, qP, va_K.moved (u := U) (U := U.calling g mk a) (Vm.Alike.refl U.vm) qK, qD, sF.moved (u := U) (U := U.calling g mk a) (Vm.Alike.refl U.vm) qZ, nF.same rfl qN⟩, fun U hU hW => ⟨rfl, by rw [hU], by rw [hU]; exact hP, va_K.moved hW.alike hK, hD.weaken (fun _ _ _ _ => trivial), by rw [hU]; exact ((hZ.kept hS.2.1).narrow hf9).moved hW.alike, hN.warm hW⟩⟩ rfl rfl hl.1 rfl (lv_room (by simp only [List.map, va_re_cat]; exact Nat.le_of_ble_eq_true rfl)) dX6_predictFour_26 ⟨(Nat.zero_le _), (Nat.zero_le _)⟩) hS (fun q _ h => hf9 q h) hf9 (fun r u t H locs ht hvm hw hB hz1 hk1 hS => ?_)
  obtain ⟨hP, hK9, hD9⟩ := hB
  rw [ht] at hP
  try dsimp only at hw
  subst hw
  have hD := hD9.weaken (fun _ q _ h => hf9 q.1 h)
  refine lv_iload hx hb dX6_predictFour_29 (lv_at hl 7 rfl) ?_
  obtain ⟨y5, hy5, hF⟩ := bnd_some hF
  have hf9 := wA_in hD hA9 hS
  refine va_callv (va_runV (As := [va_re ad (y2.1.2 b3 0), .int y4.2, .int p4]) (rest := []) ⟨hx, hb, hml, hown, hts⟩ (kX6_takeAround l D ct ad Z G y4.1 H.size a ((y2.1.2 b3 0)) y4.2 p4 y5 hc hk hy5) (cwV 3 hts gX6_predictFour_X6_takeAround rfl rfl rfl (by decide +kernel) ⟨Nat.le_of_ble_eq_true rfl, Nat.le_of_ble_eq_true rfl⟩) ⟨fun a U g mk q => by obtain ⟨q0, q1, qP, qK, qD, qZ, qN⟩ := q; exact ⟨q0, q1, qP, va_K.moved (u := U) (U := U.calling g mk a) (Vm.Alike.refl U.vm) qK, qD, sF.moved (u := U) (U := U.calling g mk a) (Vm.Alike.refl U.vm) qZ, nF.same rfl qN⟩, va_recv hK hP (ci := 6) (q0 := a) rfl (wld_o ct ad G y4.1 hc hk (by decide)), fun U hU hW => ⟨rfl, by rw [hU], by rw [hU]; exact hP, va_K.moved hW.alike hK, hD.weaken (fun _ _ _ _ => trivial), by rw [hU]; exact ((hZ.kept hS.2.1).narrow hf9).moved hW.alike, hN.warm hW⟩⟩ rfl rfl hl.1 rfl (lv_room (Nat.le_of_ble_eq_true rfl)) dX6_predictFour_31 ⟨(Nat.zero_le _), (Nat.zero_le _)⟩) hS (fun q _ h => hf9 q h) hf9 (fun u t H locs ht hvm hw hB hz1 hk1 hS => ?_)
  obtain ⟨hP, hK9, hD9⟩ := hB
  rw [ht] at hP
  have hD := hD9.weaken (fun _ q _ h => hf9 q.1 h)
  refine lv_iconst (v := (0 : Int32)) hx hb dX6_predictFour_34 (by decide) ?_
  refine lv_istore (lv' := [(8, .int (0 : Int32)), (7, .int y2.2), (6, .int y1.2), (0, .ref (ad a)), (1, va_re ad p0), (2, .int p1), (3, .int p2), (4, .int p3), (5, .int p4)]) hx hb dX6_predictFour_35 hl (by decide) rfl (fun ls hl => ?_)
  obtain ⟨y6, hy6, hF⟩ := bnd_some hF
  have K6 : ∀ (H : Heap) (locs : List Loc) (ls : Array Slot), va_P D classes (wld ct ad G y6.2) H → va_D A (wld ct ad G y6.2) → va_S A s.heap H locs → lv_has ls 14 [(8, .int y6.1), (7, .int y2.2), (6, .int y1.2), (0, .ref (ad a)), (1, va_re ad p0), (2, .int p1), (3, .int p2), (4, .int p3), (5, .int p4)] → W p l e (headSpec wuX6_predictFour ({ frames := 2, cells := 0, slots := 0, locals := 49 })).room s m ([.ref (ad a), va_re ad p0, .int p1, .int p2, .int p3, .int p4] : List Value).toArray below meth c H locs 0 0 (MQ below (va_Qv (fun (_ : Unit) => True) (fun _ t => kE D ct ad G A y t) A) ([.ref (ad a), va_re ad p0, .int p1, .int p2, .int p3, .int p4] : List Value).toArray s 0 0 A) (F0 m 418 ls []) := by
    intro H locs ls hP hD hS hl
    obtain rfl := Option.some.inj hF
    exact W.vret hx hb hr (fun t ht hW => ⟨⟨(), rfl, trivial, ⟨by rw [ht]; exact hP, va_K.moved hW.alike hK, hD⟩⟩, hS.F ht⟩) hS.2.2 dX6_predictFour_418
  clear hF
  refine itr_rule (fun (s7 : Int32 × DD) => ∀ (H : Heap) (locs : List Loc) (ls : Array Slot), va_P D classes (wld ct ad G s7.2) H → va_D A (wld ct ad G s7.2) → va_S A s.heap H locs → lv_has ls 14 [(8, .int s7.1), (7, .int y2.2), (6, .int y1.2), (0, .ref (ad a)), (1, va_re ad p0), (2, .int p1), (3, .int p2), (4, .int p3), (5, .int p4)] → W p l e (headSpec wuX6_predictFour ({ frames := 2, cells := 0, slots := 0, locals := 49 })).room s m ([.ref (ad a), va_re ad p0, .int p1, .int p2, .int p3, .int p4] : List Value).toArray below meth c H locs 0 0 (MQ below (va_Qv (fun (_ : Unit) => True) (fun _ t => kE D ct ad G A y t) A) ([.ref (ad a), va_re ad p0, .int p1, .int p2, .int p3, .int p4] : List Value).toArray s 0 0 A) (F0 m 37 ls [])) ?_ _ _ hy6 _ _ _ hP hD hS (lv_sub hl [0, 1, 2, 3, 4, 5, 6, 7, 8] rfl)
  rintro s7 ⟨z9, hF, hwz9⟩ H locs ls hP hD hS hl
  try dsimp only at hF
  refine lv_iload hx hb dX6_predictFour_37 (lv_at hl 0 rfl) ?_
  refine lv_bipush (v := (16 : Int32)) hx hb dX6_predictFour_39 (by decide) ?_
  refine lv_icmp_ge (tgt := 418) hx hb dX6_predictFour_41 (by decide) (fun c10 => ?_) (fun c10 => ?_)
  · rw [if_pos c10] at hF
    obtain rfl := Option.some.inj hF
    subst hwz9
    exact K6 _ _ _ hP hD hS (lv_sub hl [0, 1, 2, 3, 4, 5, 6, 7, 8] rfl)
  · rw [if_neg c10] at hF
    refine lv_iload hx hb dX6_predictFour_44 (lv_at hl 0 rfl) ?_
    refine lv_iconst (v := (4 : Int32)) hx hb dX6_predictFour_46 (by decide) ?_
    refine lv_irem hx hb dX6_predictFour_47 (by decide) ?_
    obtain ⟨x11, ex11, hF⟩ := ltt_some hF
    refine lv_topi (fun zx11 ezx11 => ?_)
    obtain rfl : x11 = zx11 := ex11.trans ezx11.symm
    refine lv_istore (lv' := [(9, .int x11), (8, .int s7.1), (7, .int y2.2), (6, .int y1.2), (0, .ref (ad a)), (1, va_re ad p0), (2, .int p1), (3, .int p2), (4, .int p3), (5, .int p4)]) hx hb dX6_predictFour_48 hl (by decide) rfl (fun ls hl => ?_)
    refine lv_iload hx hb dX6_predictFour_50 (lv_at hl 1 rfl) ?_
    refine lv_iconst (v := (4 : Int32)) hx hb dX6_predictFour_52 (by decide) ?_
    refine lv_idiv hx hb dX6_predictFour_53 (by decide) ?_
    obtain ⟨x12, ex12, hF⟩ := ltt_some hF
    refine lv_topi (fun zx12 ezx12 => ?_)
    obtain rfl : x12 = zx12 := ex12.trans ezx12.symm
    refine lv_istore (lv' := [(10, .int x12), (9, .int x11), (8, .int s7.1), (7, .int y2.2), (6, .int y1.2), (0, .ref (ad a)), (1, va_re ad p0), (2, .int p1), (3, .int p2), (4, .int p3), (5, .int p4)]) hx hb dX6_predictFour_54 hl (by decide) rfl (fun ls hl => ?_)
    refine lv_iload hx hb dX6_predictFour_56 (lv_at hl 9 rfl) ?_
    obtain ⟨y13, hy13, hF⟩ := bnd_some hF
    have J13 : ∀ (H : Heap) (locs : List Loc) (ls : Array Slot), va_P D classes (wld ct ad G y13.2) H → va_D A (wld ct ad G y13.2) → va_S A s.heap H locs → lv_has ls 14 [(11, .int y13.1), (10, .int x12), (9, .int x11), (8, .int s7.1), (7, .int y2.2), (6, .int y1.2), (0, .ref (ad a)), (1, va_re ad p0), (2, .int p1), (3, .int p2), (4, .int p3), (5, .int p4)] → W p l e (headSpec wuX6_predictFour ({ frames := 2, cells := 0, slots := 0, locals := 49 })).room s m ([.ref (ad a), va_re ad p0, .int p1, .int p2, .int p3, .int p4] : List Value).toArray below meth c H locs 0 0 (MQ below (va_Qv (fun (_ : Unit) => True) (fun _ t => kE D ct ad G A y t) A) ([.ref (ad a), va_re ad p0, .int p1, .int p2, .int p3, .int p4] : List Value).toArray s 0 0 A) (F0 m 391 ls []) := by
      intro H locs ls hP hD hS hl
      refine lv_aload_n hx hb dX6_predictFour_391 rfl (lv_at hl 6 rfl) ?_
      refine va_get (D := D) (ci := 6) (v := va_re ad (y13.2.2 a 0)) (C := RX6) (T := TX6) (N := 14) hx hb hts (mus hf_X6) hown hK hP a (wld_o ct ad G y13.2 hc hk (by decide)) rfl 0 (by decide) (hts (.fieldLink RX6 9 "VideoSuite$Samples" "guess" "[I") (mu mw_533)) (fun _ h9 => h9) rfl dX6_predictFour_392 ?_
      refine lv_iload hx hb dX6_predictFour_395 (lv_at hl 4 rfl) ?_
      refine lv_iload hx hb dX6_predictFour_397 (lv_at hl 1 rfl) ?_
      refine lv_iadd hx hb dX6_predictFour_399 ?_
      obtain ⟨x14, ex14, hF⟩ := ltt_some hF
      refine lv_topi (fun zx14 ezx14 => ?_)
      obtain rfl : x14 = zx14 := ex14.trans ezx14.symm
      refine lv_bipush (v := (16 : Int32)) hx hb dX6_predictFour_400 (by decide) ?_
      refine lv_imul hx hb dX6_predictFour_402 ?_
      obtain ⟨x15, ex15, hF⟩ := ltt_some hF
      refine lv_topi (fun zx15 ezx15 => ?_)
      obtain rfl : x15 = zx15 := ex15.trans ezx15.symm
      refine lv_iload hx hb dX6_predictFour_403 (lv_at hl 5 rfl) ?_
      refine lv_iadd hx hb dX6_predictFour_405 ?_
      obtain ⟨x16, ex16, hF⟩ := ltt_some hF
      refine lv_topi (fun zx16 ezx16 => ?_)
      obtain rfl : x16 = zx16 := ex16.trans ezx16.symm
      refine lv_iload hx hb dX6_predictFour_406 (lv_at hl 2 rfl) ?_
      refine lv_iadd hx hb dX6_predictFour_408 ?_
      obtain ⟨x17, ex17, hF⟩ := ltt_some hF
      refine lv_topi (fun zx17 ezx17 => ?_)
      obtain rfl : x17 = zx17 := ex17.trans ezx17.symm
      refine lv_iload hx hb dX6_predictFour_409 (lv_at hl 0 rfl) ?_
      obtain ⟨b18, ho18, hc18, hk18, hF⟩ := dr_some hF
      refine W_st (st' := [.int y13.1, .int x17, .ref (ad b18)]) (by rw [va_some ho18]) ?_
      obtain ⟨hvc, hF⟩ := chk_some hF
      refine va_iast hx hb hK hP hD hS b18 1 (wld_i ct ad G y13.2 hc18 hk18) rfl hvc dX6_predictFour_411 (fun H locs hP hD hS => ?_)
      obtain ⟨M19, eM19, hF⟩ := ltt_some hF
      rw [set_i ct ad G y13.2 hc18 hk18, ← eM19] at hP hD
      obtain ⟨x20, ex20, hF⟩ := ltt_some hF
      refine lv_iinc (v := x20) (lv' := [(8, .int x20), (11, .int y13.1), (10, .int x12), (9, .int x11), (7, .int y2.2), (6, .int y1.2), (0, .ref (ad a)), (1, va_re ad p0), (2, .int p1), (3, .int p2), (4, .int p3), (5, .int p4)]) hx hb dX6_predictFour_412 hl (k := 3) rfl (by rw [ex20]; rfl) (by decide) rfl (fun ls hl => ?_)
      refine lv_goto (tgt := 37) hx hb dX6_predictFour_415 (by decide) ?_
      obtain rfl := Option.some.inj hF
      exact hwz9 _ _ _ hP hD hS (lv_sub hl [0, 4, 5, 6, 7, 8, 9, 10, 11] rfl)
    clear hF
    have hF := hy13
    clear hy13
    refine lv_if_ne (tgt := 75) hx hb dX6_predictFour_58 (by decide) (fun c21 => ?_) (fun c21 => ?_)
    · rw [if_neg c21] at hF
      refine lv_iload hx hb dX6_predictFour_75 (lv_at hl 9 rfl) ?_
      refine lv_iconst (v := (1 : Int32)) hx hb dX6_predictFour_77 (by decide) ?_
      obtain ⟨y22, hy22, hF⟩ := bnd_some hF
      have J22 : ∀ (H : Heap) (locs : List Loc) (ls : Array Slot), va_P D classes (wld ct ad G y22.2) H → va_D A (wld ct ad G y22.2) → va_S A s.heap H locs → lv_has ls 14 [(11, .int y22.1), (10, .int x12), (9, .int x11), (8, .int s7.1), (7, .int y2.2), (6, .int y1.2), (0, .ref (ad a)), (1, va_re ad p0), (2, .int p1), (3, .int p2), (4, .int p3), (5, .int p4)] → W p l e (headSpec wuX6_predictFour ({ frames := 2, cells := 0, slots := 0, locals := 49 })).room s m ([.ref (ad a), va_re ad p0, .int p1, .int p2, .int p3, .int p4] : List Value).toArray below meth c H locs 0 0 (MQ below (va_Qv (fun (_ : Unit) => True) (fun _ t => kE D ct ad G A y t) A) ([.ref (ad a), va_re ad p0, .int p1, .int p2, .int p3, .int p4] : List Value).toArray s 0 0 A) (F0 m 391 ls []) := by
        intro H locs ls hP hD hS hl
        obtain rfl := Option.some.inj hF
        exact J13 _ _ _ hP hD hS (lv_sub hl [0, 1, 2, 3, 4, 5, 6, 7, 8, 9, 10, 11] rfl)
      clear hF
      have hF := hy22
      clear hy22
      refine lv_icmp_ne (tgt := 95) hx hb dX6_predictFour_78 (by decide) (fun c23 => ?_) (fun c23 => ?_)
      · rw [if_neg c23] at hF
        refine lv_iload hx hb dX6_predictFour_95 (lv_at hl 9 rfl) ?_
        refine lv_iconst (v := (2 : Int32)) hx hb dX6_predictFour_97 (by decide) ?_
        obtain ⟨y24, hy24, hF⟩ := bnd_some hF
        have J24 : ∀ (H : Heap) (locs : List Loc) (ls : Array Slot), va_P D classes (wld ct ad G y24.2) H → va_D A (wld ct ad G y24.2) → va_S A s.heap H locs → lv_has ls 14 [(11, .int y24.1), (10, .int x12), (9, .int x11), (8, .int s7.1), (7, .int y2.2), (6, .int y1.2), (0, .ref (ad a)), (1, va_re ad p0), (2, .int p1), (3, .int p2), (4, .int p3), (5, .int p4)] → W p l e (headSpec wuX6_predictFour ({ frames := 2, cells := 0, slots := 0, locals := 49 })).room s m ([.ref (ad a), va_re ad p0, .int p1, .int p2, .int p3, .int p4] : List Value).toArray below meth c H locs 0 0 (MQ below (va_Qv (fun (_ : Unit) => True) (fun _ t => kE D ct ad G A y t) A) ([.ref (ad a), va_re ad p0, .int p1, .int p2, .int p3, .int p4] : List Value).toArray s 0 0 A) (F0 m 391 ls []) := by
          intro H locs ls hP hD hS hl
          obtain rfl := Option.some.inj hF
          exact J22 _ _ _ hP hD hS (lv_sub hl [0, 1, 2, 3, 4, 5, 6, 7, 8, 9, 10, 11] rfl)
        clear hF
        have hF := hy24
        clear hy24
        refine lv_icmp_ne (tgt := 112) hx hb dX6_predictFour_98 (by decide) (fun c25 => ?_) (fun c25 => ?_)
        · rw [if_neg c25] at hF
          refine lv_iload hx hb dX6_predictFour_112 (lv_at hl 9 rfl) ?_
          refine lv_iconst (v := (3 : Int32)) hx hb dX6_predictFour_114 (by decide) ?_
          obtain ⟨y26, hy26, hF⟩ := bnd_some hF
          have J26 : ∀ (H : Heap) (locs : List Loc) (ls : Array Slot), va_P D classes (wld ct ad G y26.2) H → va_D A (wld ct ad G y26.2) → va_S A s.heap H locs → lv_has ls 14 [(11, .int y26.1), (10, .int x12), (9, .int x11), (8, .int s7.1), (7, .int y2.2), (6, .int y1.2), (0, .ref (ad a)), (1, va_re ad p0), (2, .int p1), (3, .int p2), (4, .int p3), (5, .int p4)] → W p l e (headSpec wuX6_predictFour ({ frames := 2, cells := 0, slots := 0, locals := 49 })).room s m ([.ref (ad a), va_re ad p0, .int p1, .int p2, .int p3, .int p4] : List Value).toArray below meth c H locs 0 0 (MQ below (va_Qv (fun (_ : Unit) => True) (fun _ t => kE D ct ad G A y t) A) ([.ref (ad a), va_re ad p0, .int p1, .int p2, .int p3, .int p4] : List Value).toArray s 0 0 A) (F0 m 391 ls []) := by
            intro H locs ls hP hD hS hl
            obtain rfl := Option.some.inj hF
            exact J24 _ _ _ hP hD hS (lv_sub hl [0, 1, 2, 3, 4, 5, 6, 7, 8, 9, 10, 11] rfl)
          clear hF
          have hF := hy26
          clear hy26
          refine lv_icmp_ne (tgt := 170) hx hb dX6_predictFour_115 (by decide) (fun c27 => ?_) (fun c27 => ?_)
          · rw [if_neg c27] at hF
            refine lv_iload hx hb dX6_predictFour_170 (lv_at hl 9 rfl) ?_
            refine lv_iconst (v := (4 : Int32)) hx hb dX6_predictFour_172 (by decide) ?_
            obtain ⟨y28, hy28, hF⟩ := bnd_some hF
            have J28 : ∀ (H : Heap) (locs : List Loc) (ls : Array Slot), va_P D classes (wld ct ad G y28.2) H → va_D A (wld ct ad G y28.2) → va_S A s.heap H locs → lv_has ls 14 [(11, .int y28.1), (10, .int x12), (9, .int x11), (8, .int s7.1), (7, .int y2.2), (6, .int y1.2), (0, .ref (ad a)), (1, va_re ad p0), (2, .int p1), (3, .int p2), (4, .int p3), (5, .int p4)] → W p l e (headSpec wuX6_predictFour ({ frames := 2, cells := 0, slots := 0, locals := 49 })).room s m ([.ref (ad a), va_re ad p0, .int p1, .int p2, .int p3, .int p4] : List Value).toArray below meth c H locs 0 0 (MQ below (va_Qv (fun (_ : Unit) => True) (fun _ t => kE D ct ad G A y t) A) ([.ref (ad a), va_re ad p0, .int p1, .int p2, .int p3, .int p4] : List Value).toArray s 0 0 A) (F0 m 391 ls []) := by
              intro H locs ls hP hD hS hl
              obtain rfl := Option.some.inj hF
              exact J26 _ _ _ hP hD hS (lv_sub hl [0, 1, 2, 3, 4, 5, 6, 7, 8, 9, 10, 11] rfl)
            clear hF
            have hF := hy28
            clear hy28
            refine lv_icmp_ne (tgt := 206) hx hb dX6_predictFour_173 (by decide) (fun c29 => ?_) (fun c29 => ?_)
            · rw [if_neg c29] at hF
              refine lv_iload hx hb dX6_predictFour_206 (lv_at hl 9 rfl) ?_
              refine lv_iconst (v := (5 : Int32)) hx hb dX6_predictFour_208 (by decide) ?_
              obtain ⟨y30, hy30, hF⟩ := bnd_some hF
              have J30 : ∀ (H : Heap) (locs : List Loc) (ls : Array Slot), va_P D classes (wld ct ad G y30.2) H → va_D A (wld ct ad G y30.2) → va_S A s.heap H locs → lv_has ls 14 [(11, .int y30.1), (10, .int x12), (9, .int x11), (8, .int s7.1), (7, .int y2.2), (6, .int y1.2), (0, .ref (ad a)), (1, va_re ad p0), (2, .int p1), (3, .int p2), (4, .int p3), (5, .int p4)] → W p l e (headSpec wuX6_predictFour ({ frames := 2, cells := 0, slots := 0, locals := 49 })).room s m ([.ref (ad a), va_re ad p0, .int p1, .int p2, .int p3, .int p4] : List Value).toArray below meth c H locs 0 0 (MQ below (va_Qv (fun (_ : Unit) => True) (fun _ t => kE D ct ad G A y t) A) ([.ref (ad a), va_re ad p0, .int p1, .int p2, .int p3, .int p4] : List Value).toArray s 0 0 A) (F0 m 391 ls []) := by
                intro H locs ls hP hD hS hl
                obtain rfl := Option.some.inj hF
                exact J28 _ _ _ hP hD hS (lv_sub hl [0, 1, 2, 3, 4, 5, 6, 7, 8, 9, 10, 11] rfl)
              clear hF
              have hF := hy30
              clear hy30
              refine lv_icmp_ne (tgt := 226) hx hb dX6_predictFour_209 (by decide) (fun c31 => ?_) (fun c31 => ?_)
              · rw [if_neg c31] at hF
                refine lv_iload hx hb dX6_predictFour_226 (lv_at hl 9 rfl) ?_
                refine lv_bipush (v := (6 : Int32)) hx hb dX6_predictFour_228 (by decide) ?_
                obtain ⟨y32, hy32, hF⟩ := bnd_some hF
                have J32 : ∀ (H : Heap) (locs : List Loc) (ls : Array Slot), va_P D classes (wld ct ad G y32.2) H → va_D A (wld ct ad G y32.2) → va_S A s.heap H locs → lv_has ls 14 [(11, .int y32.1), (10, .int x12), (9, .int x11), (8, .int s7.1), (7, .int y2.2), (6, .int y1.2), (0, .ref (ad a)), (1, va_re ad p0), (2, .int p1), (3, .int p2), (4, .int p3), (5, .int p4)] → W p l e (headSpec wuX6_predictFour ({ frames := 2, cells := 0, slots := 0, locals := 49 })).room s m ([.ref (ad a), va_re ad p0, .int p1, .int p2, .int p3, .int p4] : List Value).toArray below meth c H locs 0 0 (MQ below (va_Qv (fun (_ : Unit) => True) (fun _ t => kE D ct ad G A y t) A) ([.ref (ad a), va_re ad p0, .int p1, .int p2, .int p3, .int p4] : List Value).toArray s 0 0 A) (F0 m 391 ls []) := by
                  intro H locs ls hP hD hS hl
                  obtain rfl := Option.some.inj hF
                  exact J30 _ _ _ hP hD hS (lv_sub hl [0, 1, 2, 3, 4, 5, 6, 7, 8, 9, 10, 11] rfl)
                clear hF
                have hF := hy32
                clear hy32
                refine lv_icmp_ne (tgt := 247) hx hb dX6_predictFour_230 (by decide) (fun c33 => ?_) (fun c33 => ?_)
                · rw [if_neg c33] at hF
                  refine lv_iload hx hb dX6_predictFour_247 (lv_at hl 9 rfl) ?_
                  refine lv_bipush (v := (7 : Int32)) hx hb dX6_predictFour_249 (by decide) ?_
                  obtain ⟨y34, hy34, hF⟩ := bnd_some hF
                  have J34 : ∀ (H : Heap) (locs : List Loc) (ls : Array Slot), va_P D classes (wld ct ad G y34.2.2) H → va_D A (wld ct ad G y34.2.2) → va_S A s.heap H locs → lv_has ls 14 [(12, .int y34.2.1), (11, .int y34.1), (10, .int x12), (9, .int x11), (8, .int s7.1), (7, .int y2.2), (6, .int y1.2), (0, .ref (ad a)), (1, va_re ad p0), (2, .int p1), (3, .int p2), (4, .int p3), (5, .int p4)] → W p l e (headSpec wuX6_predictFour ({ frames := 2, cells := 0, slots := 0, locals := 49 })).room s m ([.ref (ad a), va_re ad p0, .int p1, .int p2, .int p3, .int p4] : List Value).toArray below meth c H locs 0 0 (MQ below (va_Qv (fun (_ : Unit) => True) (fun _ t => kE D ct ad G A y t) A) ([.ref (ad a), va_re ad p0, .int p1, .int p2, .int p3, .int p4] : List Value).toArray s 0 0 A) (F0 m 391 ls []) := by
                    intro H locs ls hP hD hS hl
                    obtain rfl := Option.some.inj hF
                    exact J32 _ _ _ hP hD hS (lv_sub hl [1, 2, 3, 4, 5, 6, 7, 8, 9, 10, 11, 12] rfl)
                  clear hF
                  have hF := hy34
                  clear hy34
                  refine lv_icmp_ne (tgt := 304) hx hb dX6_predictFour_251 (by decide) (fun c35 => ?_) (fun c35 => ?_)
                  · rw [if_neg c35] at hF
                    refine lv_iconst (v := (3 : Int32)) hx hb dX6_predictFour_304 (by decide) ?_
                    refine lv_iload hx hb dX6_predictFour_305 (lv_at hl 0 rfl) ?_
                    refine lv_isub hx hb dX6_predictFour_307 ?_
                    obtain ⟨x36, ex36, hF⟩ := ltt_some hF
                    refine lv_topi (fun zx36 ezx36 => ?_)
                    obtain rfl : x36 = zx36 := ex36.trans ezx36.symm
                    refine lv_iload hx hb dX6_predictFour_308 (lv_at hl 1 rfl) ?_
                    refine lv_iconst (v := (1 : Int32)) hx hb dX6_predictFour_310 (by decide) ?_
                    refine lv_ishr hx hb dX6_predictFour_311 ?_
                    obtain ⟨x37, ex37, hF⟩ := ltt_some hF
                    refine lv_topi (fun zx37 ezx37 => ?_)
                    obtain rfl : x37 = zx37 := ex37.trans ezx37.symm
                    refine lv_isub hx hb dX6_predictFour_312 ?_
                    obtain ⟨x38, ex38, hF⟩ := ltt_some hF
                    refine lv_topi (fun zx38 ezx38 => ?_)
                    obtain rfl : x38 = zx38 := ex38.trans ezx38.symm
                    refine lv_istore (lv' := [(12, .int x38), (10, .int x12), (9, .int x11), (8, .int s7.1), (7, .int y2.2), (6, .int y1.2), (0, .ref (ad a)), (1, va_re ad p0), (2, .int p1), (3, .int p2), (4, .int p3), (5, .int p4)]) hx hb dX6_predictFour_313 hl (by decide) rfl (fun ls hl => ?_)
                    refine lv_iload hx hb dX6_predictFour_315 (lv_at hl 2 rfl) ?_
                    refine lv_iconst (v := (2 : Int32)) hx hb dX6_predictFour_317 (by decide) ?_
                    refine lv_iload hx hb dX6_predictFour_318 (lv_at hl 1 rfl) ?_
                    refine lv_imul hx hb dX6_predictFour_320 ?_
                    obtain ⟨x39, ex39, hF⟩ := ltt_some hF
                    refine lv_topi (fun zx39 ezx39 => ?_)
                    obtain rfl : x39 = zx39 := ex39.trans ezx39.symm
                    refine lv_iadd hx hb dX6_predictFour_321 ?_
                    obtain ⟨x40, ex40, hF⟩ := ltt_some hF
                    refine lv_topi (fun zx40 ezx40 => ?_)
                    obtain rfl : x40 = zx40 := ex40.trans ezx40.symm
                    refine lv_istore (lv' := [(13, .int x40), (12, .int x38), (10, .int x12), (9, .int x11), (8, .int s7.1), (7, .int y2.2), (6, .int y1.2), (0, .ref (ad a)), (1, va_re ad p0), (2, .int p1), (3, .int p2), (4, .int p3), (5, .int p4)]) hx hb dX6_predictFour_322 hl (by decide) rfl (fun ls hl => ?_)
                    refine lv_iload hx hb dX6_predictFour_324 (lv_at hl 0 rfl) ?_
                    refine lv_iconst (v := (5 : Int32)) hx hb dX6_predictFour_326 (by decide) ?_
                    obtain ⟨y41, hy41, hF⟩ := bnd_some hF
                    have J41 : ∀ (H : Heap) (locs : List Loc) (ls : Array Slot), va_P D classes (wld ct ad G y41.2) H → va_D A (wld ct ad G y41.2) → va_S A s.heap H locs → lv_has ls 14 [(13, .int x40), (12, .int x38), (10, .int x12), (9, .int x11), (8, .int s7.1), (7, .int y2.2), (6, .int y1.2), (0, .ref (ad a)), (1, va_re ad p0), (2, .int p1), (3, .int p2), (4, .int p3), (5, .int p4)] → W p l e (headSpec wuX6_predictFour ({ frames := 2, cells := 0, slots := 0, locals := 49 })).room s m ([.ref (ad a), va_re ad p0, .int p1, .int p2, .int p3, .int p4] : List Value).toArray below meth c H locs 0 0 (MQ below (va_Qv (fun (_ : Unit) => True) (fun _ t => kE D ct ad G A y t) A) ([.ref (ad a), va_re ad p0, .int p1, .int p2, .int p3, .int p4] : List Value).toArray s 0 0 A) (F0 m 389 ls [.int y41.1]) := by
                      intro H locs ls hP hD hS hl
                      refine lv_istore (lv' := [(11, .int y41.1), (13, .int x40), (12, .int x38), (10, .int x12), (9, .int x11), (8, .int s7.1), (7, .int y2.2), (6, .int y1.2), (0, .ref (ad a)), (1, va_re ad p0), (2, .int p1), (3, .int p2), (4, .int p3), (5, .int p4)]) hx hb dX6_predictFour_389 hl (by decide) rfl (fun ls hl => ?_)
                      obtain rfl := Option.some.inj hF
                      exact J34 _ _ _ hP hD hS (lv_sub hl [2, 0, 3, 4, 5, 6, 7, 8, 9, 10, 11, 12, 13] rfl)
                    clear hF
                    have hF := hy41
                    clear hy41
                    refine lv_icmp_le (tgt := 339) hx hb dX6_predictFour_327 (by decide) (fun c42 => ?_) (fun c42 => ?_)
                    · rw [if_pos c42] at hF
                      refine lv_iload hx hb dX6_predictFour_339 (lv_at hl 0 rfl) ?_
                      refine lv_iconst (v := (5 : Int32)) hx hb dX6_predictFour_341 (by decide) ?_
                      obtain ⟨y43, hy43, hF⟩ := bnd_some hF
                      have J43 : ∀ (H : Heap) (locs : List Loc) (ls : Array Slot), va_P D classes (wld ct ad G y43.2) H → va_D A (wld ct ad G y43.2) → va_S A s.heap H locs → lv_has ls 14 [(13, .int x40), (12, .int x38), (10, .int x12), (9, .int x11), (8, .int s7.1), (7, .int y2.2), (6, .int y1.2), (0, .ref (ad a)), (1, va_re ad p0), (2, .int p1), (3, .int p2), (4, .int p3), (5, .int p4)] → W p l e (headSpec wuX6_predictFour ({ frames := 2, cells := 0, slots := 0, locals := 49 })).room s m ([.ref (ad a), va_re ad p0, .int p1, .int p2, .int p3, .int p4] : List Value).toArray below meth c H locs 0 0 (MQ below (va_Qv (fun (_ : Unit) => True) (fun _ t => kE D ct ad G A y t) A) ([.ref (ad a), va_re ad p0, .int p1, .int p2, .int p3, .int p4] : List Value).toArray s 0 0 A) (F0 m 389 ls [.int y43.1]) := by
                        intro H locs ls hP hD hS hl
                        obtain rfl := Option.some.inj hF
                        exact J41 _ _ _ hP hD hS (lv_sub hl [0, 1, 2, 3, 4, 5, 6, 7, 8, 9, 10, 11, 12] rfl)
                      clear hF
                      have hF := hy43
                      clear hy43
                      refine lv_icmp_ne (tgt := 355) hx hb dX6_predictFour_342 (by decide) (fun c44 => ?_) (fun c44 => ?_)
                      · rw [if_neg c44] at hF
                        refine lv_iload hx hb dX6_predictFour_355 (lv_at hl 0 rfl) ?_
                        refine lv_iconst (v := (2 : Int32)) hx hb dX6_predictFour_357 (by decide) ?_
                        refine lv_irem hx hb dX6_predictFour_358 (by decide) ?_
                        obtain ⟨x45, ex45, hF⟩ := ltt_some hF
                        refine lv_topi (fun zx45 ezx45 => ?_)
                        obtain rfl : x45 = zx45 := ex45.trans ezx45.symm
                        obtain ⟨y46, hy46, hF⟩ := bnd_some hF
                        have J46 : ∀ (H : Heap) (locs : List Loc) (ls : Array Slot), va_P D classes (wld ct ad G y46.2) H → va_D A (wld ct ad G y46.2) → va_S A s.heap H locs → lv_has ls 14 [(13, .int x40), (12, .int x38), (10, .int x12), (9, .int x11), (8, .int s7.1), (7, .int y2.2), (6, .int y1.2), (0, .ref (ad a)), (1, va_re ad p0), (2, .int p1), (3, .int p2), (4, .int p3), (5, .int p4)] → W p l e (headSpec wuX6_predictFour ({ frames := 2, cells := 0, slots := 0, locals := 49 })).room s m ([.ref (ad a), va_re ad p0, .int p1, .int p2, .int p3, .int p4] : List Value).toArray below meth c H locs 0 0 (MQ below (va_Qv (fun (_ : Unit) => True) (fun _ t => kE D ct ad G A y t) A) ([.ref (ad a), va_re ad p0, .int p1, .int p2, .int p3, .int p4] : List Value).toArray s 0 0 A) (F0 m 389 ls [.int y46.1]) := by
                          intro H locs ls hP hD hS hl
                          obtain rfl := Option.some.inj hF
                          exact J43 _ _ _ hP hD hS (lv_sub hl [0, 1, 2, 3, 4, 5, 6, 7, 8, 9, 10, 11, 12] rfl)
                        clear hF
                        have hF := hy46
                        clear hy46
                        refine lv_if_ne (tgt := 375) hx hb dX6_predictFour_359 (by decide) (fun c47 => ?_) (fun c47 => ?_)
                        · rw [if_neg c47] at hF
                          refine lv_aload_n hx hb dX6_predictFour_375 rfl (lv_at hl 7 rfl) ?_
                          refine lv_iload hx hb dX6_predictFour_376 (lv_at hl 1 rfl) ?_
                          refine lv_iload hx hb dX6_predictFour_378 (lv_at hl 1 rfl) ?_
                          refine lv_iconst (v := (1 : Int32)) hx hb dX6_predictFour_380 (by decide) ?_
                          refine lv_isub hx hb dX6_predictFour_381 ?_
                          obtain ⟨x48, ex48, hF⟩ := ltt_some hF
                          refine lv_topi (fun zx48 ezx48 => ?_)
                          obtain rfl : x48 = zx48 := ex48.trans ezx48.symm
                          refine lv_iload hx hb dX6_predictFour_382 (lv_at hl 1 rfl) ?_
                          refine lv_iconst (v := (2 : Int32)) hx hb dX6_predictFour_384 (by decide) ?_
                          refine lv_isub hx hb dX6_predictFour_385 ?_
                          obtain ⟨x49, ex49, hF⟩ := ltt_some hF
                          refine lv_topi (fun zx49 ezx49 => ?_)
                          obtain rfl : x49 = zx49 := ex49.trans ezx49.symm
                          obtain ⟨y50, hy50, hF⟩ := bnd_some hF
                          have hf9 := wA_in hD hA9 hS
                          refine va_calli (va_runV (As := [.int x38, .int x48, .int x49]) (rest := []) ⟨hx, hb, hml, hown, hts⟩ (kX6_three l D ct ad Z G s7.2 H.size a x38 x48 x49 y50 hc hk hy50) (cwV 3 hts gX6_predictFour_X6_three rfl rfl rfl (by decide +kernel) ⟨Nat.le_of_ble_eq_true rfl, Nat.le_of_ble_eq_true rfl⟩) ⟨fun a U g mk q => by obtain ⟨q0, q1, qP, qK, qD, qZ, qN⟩ := q; exact ⟨q0, q1, qP, va_K.moved (u := U) (U := U.calling g mk a) (Vm.Alike.refl U.vm) qK, qD, sF.moved (u := U) (U := U.calling g mk a) (Vm.Alike.refl U.vm) qZ, nF.same rfl qN⟩, va_recv hK hP (ci := 6) (q0 := a) rfl (wld_o ct ad G s7.2 hc hk (by decide)), fun U hU hW => ⟨rfl, by rw [hU], by rw [hU]; exact hP, va_K.moved hW.alike hK, hD.weaken (fun _ _ _ _ => trivial), by rw [hU]; exact ((hZ.kept hS.2.1).narrow hf9).moved hW.alike, hN.warm hW⟩⟩ rfl rfl hl.1 rfl (lv_room (Nat.le_of_ble_eq_true rfl)) dX6_predictFour_386 ⟨(Nat.zero_le _), (Nat.zero_le _)⟩) hS (fun q _ h => hf9 q h) hf9 (fun r u t H locs ht hvm hw hB hz1 hk1 hS => ?_)
                          obtain ⟨hP, hK9, hD9⟩ := hB
                          rw [ht] at hP
                          try dsimp only at hw
                          subst hw
                          have hD := hD9.weaken (fun _ q _ h => hf9 q.1 h)
                          obtain rfl := Option.some.inj hF
                          exact J46 _ _ _ hP hD hS (lv_sub hl [0, 1, 2, 3, 4, 5, 6, 7, 8, 9, 10, 11, 12] rfl)
                        · rw [if_pos c47] at hF
                          refine lv_aload_n hx hb dX6_predictFour_362 rfl (lv_at hl 7 rfl) ?_
                          refine lv_iload hx hb dX6_predictFour_363 (lv_at hl 1 rfl) ?_
                          refine lv_iload hx hb dX6_predictFour_365 (lv_at hl 1 rfl) ?_
                          refine lv_iconst (v := (1 : Int32)) hx hb dX6_predictFour_367 (by decide) ?_
                          refine lv_isub hx hb dX6_predictFour_368 ?_
                          obtain ⟨x51, ex51, hF⟩ := ltt_some hF
                          refine lv_topi (fun zx51 ezx51 => ?_)
                          obtain rfl : x51 = zx51 := ex51.trans ezx51.symm
                          obtain ⟨y52, hy52, hF⟩ := bnd_some hF
                          have hf9 := wA_in hD hA9 hS
                          refine va_calli (va_runV (As := [.int x38, .int x51]) (rest := []) ⟨hx, hb, hml, hown, hts⟩ (kX6_two l D ct ad Z G s7.2 H.size a x38 x51 y52 hc hk hy52) (cwV 2 hts gX6_predictFour_X6_two rfl rfl rfl (by decide +kernel) ⟨Nat.le_of_ble_eq_true rfl, Nat.le_of_ble_eq_true rfl⟩) ⟨fun a U g mk q => by obtain ⟨q0, q1, qP, qK, qD, qZ, qN⟩ := q; exact ⟨q0, q1, qP, va_K.moved (u := U) (U := U.calling g mk a) (Vm.Alike.refl U.vm) qK, qD, sF.moved (u := U) (U := U.calling g mk a) (Vm.Alike.refl U.vm) qZ, nF.same rfl qN⟩, va_recv hK hP (ci := 6) (q0 := a) rfl (wld_o ct ad G s7.2 hc hk (by decide)), fun U hU hW => ⟨rfl, by rw [hU], by rw [hU]; exact hP, va_K.moved hW.alike hK, hD.weaken (fun _ _ _ _ => trivial), by rw [hU]; exact ((hZ.kept hS.2.1).narrow hf9).moved hW.alike, hN.warm hW⟩⟩ rfl rfl hl.1 rfl (lv_room (Nat.le_of_ble_eq_true rfl)) dX6_predictFour_369 ⟨(Nat.zero_le _), (Nat.zero_le _)⟩) hS (fun q _ h => hf9 q h) hf9 (fun r u t H locs ht hvm hw hB hz1 hk1 hS => ?_)
                          obtain ⟨hP, hK9, hD9⟩ := hB
                          rw [ht] at hP
                          try dsimp only at hw
                          subst hw
                          have hD := hD9.weaken (fun _ q _ h => hf9 q.1 h)
                          refine lv_goto (tgt := 389) hx hb dX6_predictFour_372 (by decide) ?_
                          obtain rfl := Option.some.inj hF
                          exact J46 _ _ _ hP hD hS (lv_sub hl [0, 1, 2, 3, 4, 5, 6, 7, 8, 9, 10, 11, 12] rfl)
                      · rw [if_pos c44] at hF
                        refine lv_aload_n hx hb dX6_predictFour_345 rfl (lv_at hl 7 rfl) ?_
                        refine lv_iconst (v := (1 : Int32)) hx hb dX6_predictFour_346 (by decide) ?_
                        refine lv_iconst (v := (0 : Int32)) hx hb dX6_predictFour_347 (by decide) ?_
                        refine lv_iconst (v := (0 : Int32)) hx hb dX6_predictFour_348 (by decide) ?_
                        obtain ⟨y53, hy53, hF⟩ := bnd_some hF
                        have hf9 := wA_in hD hA9 hS
                        refine va_calli (va_runV (As := [.int (1 : Int32), .int (0 : Int32), .int (0 : Int32)]) (rest := []) ⟨hx, hb, hml, hown, hts⟩ (kX6_three l D ct ad Z G s7.2 H.size a ((1 : Int32)) ((0 : Int32)) ((0 : Int32)) y53 hc hk hy53) (cwV 3 hts gX6_predictFour_X6_three rfl rfl rfl (by decide +kernel) ⟨Nat.le_of_ble_eq_true rfl, Nat.le_of_ble_eq_true rfl⟩) ⟨fun a U g mk q => by obtain ⟨q0, q1, qP, qK, qD, qZ, qN⟩ := q; exact ⟨q0, q1, qP, va_K.moved (u := U) (U := U.calling g mk a) (Vm.Alike.refl U.vm) qK, qD, sF.moved (u := U) (U := U.calling g mk a) (Vm.Alike.refl U.vm) qZ, nF.same rfl qN⟩, va_recv hK hP (ci := 6) (q0 := a) rfl (wld_o ct ad G s7.2 hc hk (by decide)), fun U hU hW => ⟨rfl, by rw [hU], by rw [hU]; exact hP, va_K.moved hW.alike hK, hD.weaken (fun _ _ _ _ => trivial), by rw [hU]; exact ((hZ.kept hS.2.1).narrow hf9).moved hW.alike, hN.warm hW⟩⟩ rfl rfl hl.1 rfl (lv_room (Nat.le_of_ble_eq_true rfl)) dX6_predictFour_349 ⟨(Nat.zero_le _), (Nat.zero_le _)⟩) hS (fun q _ h => hf9 q h) hf9 (fun r u t H locs ht hvm hw hB hz1 hk1 hS => ?_)
                        obtain ⟨hP, hK9, hD9⟩ := hB
                        rw [ht] at hP
                        try dsimp only at hw
                        subst hw
                        have hD := hD9.weaken (fun _ q _ h => hf9 q.1 h)
                        refine lv_goto (tgt := 389) hx hb dX6_predictFour_352 (by decide) ?_
                        obtain rfl := Option.some.inj hF
                        exact J43 _ _ _ hP hD hS (lv_sub hl [0, 1, 2, 3, 4, 5, 6, 7, 8, 9, 10, 11, 12] rfl)
                    · rw [if_neg c42] at hF
                      refine lv_aload_n hx hb dX6_predictFour_330 rfl (lv_at hl 7 rfl) ?_
                      refine va_get (D := D) (ci := 6) (v := va_re ad (s7.2.2 a 8)) (C := RX6) (T := TX6) (N := 14) hx hb hts (mus hf_X6) hown hK hP a (wld_o ct ad G s7.2 hc hk (by decide)) rfl 8 (by decide) (hts (.fieldLink RX6 36 "VideoSuite$Samples" "around" "[I") (mu mw_544)) (fun _ h9 => h9) rfl dX6_predictFour_331 ?_
                      refine lv_iconst (v := (0 : Int32)) hx hb dX6_predictFour_334 (by decide) ?_
                      obtain ⟨b54, ho54, hc54, hk54, hF⟩ := dr_some hF
                      refine W_st (st' := [.int (0 : Int32), .ref (ad b54)]) (by rw [va_some ho54]) ?_
                      obtain ⟨hvc, hF⟩ := chk_some hF
                      refine va_iald hx hb hK hP b54 1 (wld_i ct ad G s7.2 hc54 hk54) rfl hvc dX6_predictFour_335 ?_
                      obtain ⟨x55, ex55, hF⟩ := ltt_some hF
                      refine lv_topi (fun zx55 ezx55 => ?_)
                      obtain rfl : x55 = zx55 := ex55.trans ezx55.symm
                      refine lv_goto (tgt := 389) hx hb dX6_predictFour_336 (by decide) ?_
                      obtain rfl := Option.some.inj hF
                      exact J41 _ _ _ hP hD hS (lv_sub hl [0, 1, 2, 3, 4, 5, 6, 7, 8, 9, 10, 11, 12] rfl)
                  · rw [if_pos c35] at hF
                    refine lv_iconst (v := (5 : Int32)) hx hb dX6_predictFour_254 (by decide) ?_
                    refine lv_iload hx hb dX6_predictFour_255 (lv_at hl 1 rfl) ?_
                    refine lv_iadd hx hb dX6_predictFour_257 ?_
                    obtain ⟨x56, ex56, hF⟩ := ltt_some hF
                    refine lv_topi (fun zx56 ezx56 => ?_)
                    obtain rfl : x56 = zx56 := ex56.trans ezx56.symm
                    refine lv_iload hx hb dX6_predictFour_258 (lv_at hl 0 rfl) ?_
                    refine lv_iconst (v := (1 : Int32)) hx hb dX6_predictFour_260 (by decide) ?_
                    refine lv_ishr hx hb dX6_predictFour_261 ?_
                    obtain ⟨x57, ex57, hF⟩ := ltt_some hF
                    refine lv_topi (fun zx57 ezx57 => ?_)
                    obtain rfl : x57 = zx57 := ex57.trans ezx57.symm
                    refine lv_iadd hx hb dX6_predictFour_262 ?_
                    obtain ⟨x58, ex58, hF⟩ := ltt_some hF
                    refine lv_topi (fun zx58 ezx58 => ?_)
                    obtain rfl : x58 = zx58 := ex58.trans ezx58.symm
                    refine lv_istore (lv' := [(12, .int x58), (10, .int x12), (9, .int x11), (8, .int s7.1), (7, .int y2.2), (6, .int y1.2), (0, .ref (ad a)), (1, va_re ad p0), (2, .int p1), (3, .int p2), (4, .int p3), (5, .int p4)]) hx hb dX6_predictFour_263 hl (by decide) rfl (fun ls hl => ?_)
                    refine lv_iload hx hb dX6_predictFour_265 (lv_at hl 1 rfl) ?_
                    refine lv_iconst (v := (2 : Int32)) hx hb dX6_predictFour_267 (by decide) ?_
                    refine lv_irem hx hb dX6_predictFour_268 (by decide) ?_
                    obtain ⟨x59, ex59, hF⟩ := ltt_some hF
                    refine lv_topi (fun zx59 ezx59 => ?_)
                    obtain rfl : x59 = zx59 := ex59.trans ezx59.symm
                    obtain ⟨y60, hy60, hF⟩ := bnd_some hF
                    have J60 : ∀ (H : Heap) (locs : List Loc) (ls : Array Slot), va_P D classes (wld ct ad G y60.2) H → va_D A (wld ct ad G y60.2) → va_S A s.heap H locs → lv_has ls 14 [(12, .int x58), (10, .int x12), (9, .int x11), (8, .int s7.1), (7, .int y2.2), (6, .int y1.2), (0, .ref (ad a)), (1, va_re ad p0), (2, .int p1), (3, .int p2), (4, .int p3), (5, .int p4)] → W p l e (headSpec wuX6_predictFour ({ frames := 2, cells := 0, slots := 0, locals := 49 })).room s m ([.ref (ad a), va_re ad p0, .int p1, .int p2, .int p3, .int p4] : List Value).toArray below meth c H locs 0 0 (MQ below (va_Qv (fun (_ : Unit) => True) (fun _ t => kE D ct ad G A y t) A) ([.ref (ad a), va_re ad p0, .int p1, .int p2, .int p3, .int p4] : List Value).toArray s 0 0 A) (F0 m 299 ls [.int y60.1]) := by
                      intro H locs ls hP hD hS hl
                      refine lv_istore (lv' := [(11, .int y60.1), (12, .int x58), (10, .int x12), (9, .int x11), (8, .int s7.1), (7, .int y2.2), (6, .int y1.2), (0, .ref (ad a)), (1, va_re ad p0), (2, .int p1), (3, .int p2), (4, .int p3), (5, .int p4)]) hx hb dX6_predictFour_299 hl (by decide) rfl (fun ls hl => ?_)
                      refine lv_goto (tgt := 391) hx hb dX6_predictFour_301 (by decide) ?_
                      obtain rfl := Option.some.inj hF
                      exact J34 _ _ _ hP hD hS (lv_sub hl [1, 0, 2, 3, 4, 5, 6, 7, 8, 9, 10, 11, 12] rfl)
                    clear hF
                    have hF := hy60
                    clear hy60
                    refine lv_if_ne (tgt := 285) hx hb dX6_predictFour_269 (by decide) (fun c61 => ?_) (fun c61 => ?_)
                    · rw [if_neg c61] at hF
                      refine lv_aload_n hx hb dX6_predictFour_285 rfl (lv_at hl 6 rfl) ?_
                      refine lv_iload hx hb dX6_predictFour_286 (lv_at hl 0 rfl) ?_
                      refine lv_iload hx hb dX6_predictFour_288 (lv_at hl 0 rfl) ?_
                      refine lv_iconst (v := (1 : Int32)) hx hb dX6_predictFour_290 (by decide) ?_
                      refine lv_iadd hx hb dX6_predictFour_291 ?_
                      obtain ⟨x62, ex62, hF⟩ := ltt_some hF
                      refine lv_topi (fun zx62 ezx62 => ?_)
                      obtain rfl : x62 = zx62 := ex62.trans ezx62.symm
                      refine lv_iload hx hb dX6_predictFour_292 (lv_at hl 0 rfl) ?_
                      refine lv_iconst (v := (2 : Int32)) hx hb dX6_predictFour_294 (by decide) ?_
                      refine lv_iadd hx hb dX6_predictFour_295 ?_
                      obtain ⟨x63, ex63, hF⟩ := ltt_some hF
                      refine lv_topi (fun zx63 ezx63 => ?_)
                      obtain rfl : x63 = zx63 := ex63.trans ezx63.symm
                      obtain ⟨y64, hy64, hF⟩ := bnd_some hF
                      have hf9 := wA_in hD hA9 hS
                      refine va_calli (va_runV (As := [.int x58, .int x62, .int x63]) (rest := []) ⟨hx, hb, hml, hown, hts⟩ (kX6_three l D ct ad Z G s7.2 H.size a x58 x62 x63 y64 hc hk hy64) (cwV 3 hts gX6_predictFour_X6_three rfl rfl rfl (by decide +kernel) ⟨Nat.le_of_ble_eq_true rfl, Nat.le_of_ble_eq_true rfl⟩) ⟨fun a U g mk q => by obtain ⟨q0, q1, qP, qK, qD, qZ, qN⟩ := q; exact ⟨q0, q1, qP, va_K.moved (u := U) (U := U.calling g mk a) (Vm.Alike.refl U.vm) qK, qD, sF.moved (u := U) (U := U.calling g mk a) (Vm.Alike.refl U.vm) qZ, nF.same rfl qN⟩, va_recv hK hP (ci := 6) (q0 := a) rfl (wld_o ct ad G s7.2 hc hk (by decide)), fun U hU hW => ⟨rfl, by rw [hU], by rw [hU]; exact hP, va_K.moved hW.alike hK, hD.weaken (fun _ _ _ _ => trivial), by rw [hU]; exact ((hZ.kept hS.2.1).narrow hf9).moved hW.alike, hN.warm hW⟩⟩ rfl rfl hl.1 rfl (lv_room (Nat.le_of_ble_eq_true rfl)) dX6_predictFour_296 ⟨(Nat.zero_le _), (Nat.zero_le _)⟩) hS (fun q _ h => hf9 q h) hf9 (fun r u t H locs ht hvm hw hB hz1 hk1 hS => ?_)
                      obtain ⟨hP, hK9, hD9⟩ := hB
                      rw [ht] at hP
                      try dsimp only at hw
                      subst hw
                      have hD := hD9.weaken (fun _ q _ h => hf9 q.1 h)
                      obtain rfl := Option.some.inj hF
                      exact J60 _ _ _ hP hD hS (lv_sub hl [0, 1, 2, 3, 4, 5, 6, 7, 8, 9, 10, 11] rfl)
                    · rw [if_pos c61] at hF
                      refine lv_aload_n hx hb dX6_predictFour_272 rfl (lv_at hl 6 rfl) ?_
                      refine lv_iload hx hb dX6_predictFour_273 (lv_at hl 0 rfl) ?_
                      refine lv_iload hx hb dX6_predictFour_275 (lv_at hl 0 rfl) ?_
                      refine lv_iconst (v := (1 : Int32)) hx hb dX6_predictFour_277 (by decide) ?_
                      refine lv_iadd hx hb dX6_predictFour_278 ?_
                      obtain ⟨x65, ex65, hF⟩ := ltt_some hF
                      refine lv_topi (fun zx65 ezx65 => ?_)
                      obtain rfl : x65 = zx65 := ex65.trans ezx65.symm
                      obtain ⟨y66, hy66, hF⟩ := bnd_some hF
                      have hf9 := wA_in hD hA9 hS
                      refine va_calli (va_runV (As := [.int x58, .int x65]) (rest := []) ⟨hx, hb, hml, hown, hts⟩ (kX6_two l D ct ad Z G s7.2 H.size a x58 x65 y66 hc hk hy66) (cwV 2 hts gX6_predictFour_X6_two rfl rfl rfl (by decide +kernel) ⟨Nat.le_of_ble_eq_true rfl, Nat.le_of_ble_eq_true rfl⟩) ⟨fun a U g mk q => by obtain ⟨q0, q1, qP, qK, qD, qZ, qN⟩ := q; exact ⟨q0, q1, qP, va_K.moved (u := U) (U := U.calling g mk a) (Vm.Alike.refl U.vm) qK, qD, sF.moved (u := U) (U := U.calling g mk a) (Vm.Alike.refl U.vm) qZ, nF.same rfl qN⟩, va_recv hK hP (ci := 6) (q0 := a) rfl (wld_o ct ad G s7.2 hc hk (by decide)), fun U hU hW => ⟨rfl, by rw [hU], by rw [hU]; exact hP, va_K.moved hW.alike hK, hD.weaken (fun _ _ _ _ => trivial), by rw [hU]; exact ((hZ.kept hS.2.1).narrow hf9).moved hW.alike, hN.warm hW⟩⟩ rfl rfl hl.1 rfl (lv_room (Nat.le_of_ble_eq_true rfl)) dX6_predictFour_279 ⟨(Nat.zero_le _), (Nat.zero_le _)⟩) hS (fun q _ h => hf9 q h) hf9 (fun r u t H locs ht hvm hw hB hz1 hk1 hS => ?_)
                      obtain ⟨hP, hK9, hD9⟩ := hB
                      rw [ht] at hP
                      try dsimp only at hw
                      subst hw
                      have hD := hD9.weaken (fun _ q _ h => hf9 q.1 h)
                      refine lv_goto (tgt := 299) hx hb dX6_predictFour_282 (by decide) ?_
                      obtain rfl := Option.some.inj hF
                      exact J60 _ _ _ hP hD hS (lv_sub hl [0, 1, 2, 3, 4, 5, 6, 7, 8, 9, 10, 11] rfl)
                · rw [if_pos c33] at hF
                  refine lv_aload_n hx hb dX6_predictFour_233 rfl (lv_at hl 5 rfl) ?_
                  refine lv_iload hx hb dX6_predictFour_234 (lv_at hl 0 rfl) ?_
                  refine lv_iload hx hb dX6_predictFour_236 (lv_at hl 1 rfl) ?_
                  refine lv_iconst (v := (-1 : Int32)) hx hb dX6_predictFour_238 (by decide) ?_
                  obtain ⟨y67, hy67, hF⟩ := bnd_some hF
                  have hf9 := wA_in hD hA9 hS
                  refine va_calli (va_runV (As := [.int x12, .int x11, .int (-1 : Int32)]) (rest := []) ⟨hx, hb, hml, hown, hts⟩ (kX6_slant l D ct ad Z G s7.2 H.size a x12 x11 ((-1 : Int32)) y67 hc hk hy67) (cwV 3 hts gX6_predictFour_X6_slant rfl rfl rfl (by decide +kernel) ⟨Nat.le_of_ble_eq_true rfl, Nat.le_of_ble_eq_true rfl⟩) ⟨fun a U g mk q => by obtain ⟨q0, q1, qP, qK, qD, qZ, qN⟩ := q; exact ⟨q0, q1, qP, va_K.moved (u := U) (U := U.calling g mk a) (Vm.Alike.refl U.vm) qK, qD, sF.moved (u := U) (U := U.calling g mk a) (Vm.Alike.refl U.vm) qZ, nF.same rfl qN⟩, va_recv hK hP (ci := 6) (q0 := a) rfl (wld_o ct ad G s7.2 hc hk (by decide)), fun U hU hW => ⟨rfl, by rw [hU], by rw [hU]; exact hP, va_K.moved hW.alike hK, hD.weaken (fun _ _ _ _ => trivial), by rw [hU]; exact ((hZ.kept hS.2.1).narrow hf9).moved hW.alike, hN.warm hW⟩⟩ rfl rfl hl.1 rfl (lv_room (Nat.le_of_ble_eq_true rfl)) dX6_predictFour_239 ⟨(Nat.zero_le _), (Nat.zero_le _)⟩) hS (fun q _ h => hf9 q h) hf9 (fun r u t H locs ht hvm hw hB hz1 hk1 hS => ?_)
                  obtain ⟨hP, hK9, hD9⟩ := hB
                  rw [ht] at hP
                  try dsimp only at hw
                  subst hw
                  have hD := hD9.weaken (fun _ q _ h => hf9 q.1 h)
                  refine lv_istore (lv' := [(11, .int y67.2), (10, .int x12), (9, .int x11), (8, .int s7.1), (7, .int y2.2), (6, .int y1.2), (0, .ref (ad a)), (1, va_re ad p0), (2, .int p1), (3, .int p2), (4, .int p3), (5, .int p4)]) hx hb dX6_predictFour_242 hl (by decide) rfl (fun ls hl => ?_)
                  refine lv_goto (tgt := 391) hx hb dX6_predictFour_244 (by decide) ?_
                  obtain rfl := Option.some.inj hF
                  exact J32 _ _ _ hP hD hS (lv_sub hl [0, 1, 2, 3, 4, 5, 6, 7, 8, 9, 10, 11] rfl)
              · rw [if_pos c31] at hF
                refine lv_aload_n hx hb dX6_predictFour_212 rfl (lv_at hl 5 rfl) ?_
                refine lv_iload hx hb dX6_predictFour_213 (lv_at hl 1 rfl) ?_
                refine lv_iload hx hb dX6_predictFour_215 (lv_at hl 0 rfl) ?_
                refine lv_iconst (v := (1 : Int32)) hx hb dX6_predictFour_217 (by decide) ?_
                obtain ⟨y68, hy68, hF⟩ := bnd_some hF
                have hf9 := wA_in hD hA9 hS
                refine va_calli (va_runV (As := [.int x11, .int x12, .int (1 : Int32)]) (rest := []) ⟨hx, hb, hml, hown, hts⟩ (kX6_slant l D ct ad Z G s7.2 H.size a x11 x12 ((1 : Int32)) y68 hc hk hy68) (cwV 3 hts gX6_predictFour_X6_slant rfl rfl rfl (by decide +kernel) ⟨Nat.le_of_ble_eq_true rfl, Nat.le_of_ble_eq_true rfl⟩) ⟨fun a U g mk q => by obtain ⟨q0, q1, qP, qK, qD, qZ, qN⟩ := q; exact ⟨q0, q1, qP, va_K.moved (u := U) (U := U.calling g mk a) (Vm.Alike.refl U.vm) qK, qD, sF.moved (u := U) (U := U.calling g mk a) (Vm.Alike.refl U.vm) qZ, nF.same rfl qN⟩, va_recv hK hP (ci := 6) (q0 := a) rfl (wld_o ct ad G s7.2 hc hk (by decide)), fun U hU hW => ⟨rfl, by rw [hU], by rw [hU]; exact hP, va_K.moved hW.alike hK, hD.weaken (fun _ _ _ _ => trivial), by rw [hU]; exact ((hZ.kept hS.2.1).narrow hf9).moved hW.alike, hN.warm hW⟩⟩ rfl rfl hl.1 rfl (lv_room (Nat.le_of_ble_eq_true rfl)) dX6_predictFour_218 ⟨(Nat.zero_le _), (Nat.zero_le _)⟩) hS (fun q _ h => hf9 q h) hf9 (fun r u t H locs ht hvm hw hB hz1 hk1 hS => ?_)
                obtain ⟨hP, hK9, hD9⟩ := hB
                rw [ht] at hP
                try dsimp only at hw
                subst hw
                have hD := hD9.weaken (fun _ q _ h => hf9 q.1 h)
                refine lv_istore (lv' := [(11, .int y68.2), (10, .int x12), (9, .int x11), (8, .int s7.1), (7, .int y2.2), (6, .int y1.2), (0, .ref (ad a)), (1, va_re ad p0), (2, .int p1), (3, .int p2), (4, .int p3), (5, .int p4)]) hx hb dX6_predictFour_221 hl (by decide) rfl (fun ls hl => ?_)
                refine lv_goto (tgt := 391) hx hb dX6_predictFour_223 (by decide) ?_
                obtain rfl := Option.some.inj hF
                exact J30 _ _ _ hP hD hS (lv_sub hl [0, 1, 2, 3, 4, 5, 6, 7, 8, 9, 10, 11] rfl)
            · rw [if_pos c29] at hF
              refine lv_aload_n hx hb dX6_predictFour_176 rfl (lv_at hl 5 rfl) ?_
              refine lv_iconst (v := (3 : Int32)) hx hb dX6_predictFour_177 (by decide) ?_
              refine lv_iload hx hb dX6_predictFour_178 (lv_at hl 1 rfl) ?_
              refine lv_iadd hx hb dX6_predictFour_180 ?_
              obtain ⟨x69, ex69, hF⟩ := ltt_some hF
              refine lv_topi (fun zx69 ezx69 => ?_)
              obtain rfl : x69 = zx69 := ex69.trans ezx69.symm
              refine lv_iload hx hb dX6_predictFour_181 (lv_at hl 0 rfl) ?_
              refine lv_isub hx hb dX6_predictFour_183 ?_
              obtain ⟨x70, ex70, hF⟩ := ltt_some hF
              refine lv_topi (fun zx70 ezx70 => ?_)
              obtain rfl : x70 = zx70 := ex70.trans ezx70.symm
              refine lv_iconst (v := (4 : Int32)) hx hb dX6_predictFour_184 (by decide) ?_
              refine lv_iload hx hb dX6_predictFour_185 (lv_at hl 1 rfl) ?_
              refine lv_iadd hx hb dX6_predictFour_187 ?_
              obtain ⟨x71, ex71, hF⟩ := ltt_some hF
              refine lv_topi (fun zx71 ezx71 => ?_)
              obtain rfl : x71 = zx71 := ex71.trans ezx71.symm
              refine lv_iload hx hb dX6_predictFour_188 (lv_at hl 0 rfl) ?_
              refine lv_isub hx hb dX6_predictFour_190 ?_
              obtain ⟨x72, ex72, hF⟩ := ltt_some hF
              refine lv_topi (fun zx72 ezx72 => ?_)
              obtain rfl : x72 = zx72 := ex72.trans ezx72.symm
              refine lv_iconst (v := (5 : Int32)) hx hb dX6_predictFour_191 (by decide) ?_
              refine lv_iload hx hb dX6_predictFour_192 (lv_at hl 1 rfl) ?_
              refine lv_iadd hx hb dX6_predictFour_194 ?_
              obtain ⟨x73, ex73, hF⟩ := ltt_some hF
              refine lv_topi (fun zx73 ezx73 => ?_)
              obtain rfl : x73 = zx73 := ex73.trans ezx73.symm
              refine lv_iload hx hb dX6_predictFour_195 (lv_at hl 0 rfl) ?_
              refine lv_isub hx hb dX6_predictFour_197 ?_
              obtain ⟨x74, ex74, hF⟩ := ltt_some hF
              refine lv_topi (fun zx74 ezx74 => ?_)
              obtain rfl : x74 = zx74 := ex74.trans ezx74.symm
              obtain ⟨y75, hy75, hF⟩ := bnd_some hF
              have hf9 := wA_in hD hA9 hS
              refine va_calli (va_runV (As := [.int x70, .int x72, .int x74]) (rest := []) ⟨hx, hb, hml, hown, hts⟩ (kX6_three l D ct ad Z G s7.2 H.size a x70 x72 x74 y75 hc hk hy75) (cwV 3 hts gX6_predictFour_X6_three rfl rfl rfl (by decide +kernel) ⟨Nat.le_of_ble_eq_true rfl, Nat.le_of_ble_eq_true rfl⟩) ⟨fun a U g mk q => by obtain ⟨q0, q1, qP, qK, qD, qZ, qN⟩ := q; exact ⟨q0, q1, qP, va_K.moved (u := U) (U := U.calling g mk a) (Vm.Alike.refl U.vm) qK, qD, sF.moved (u := U) (U := U.calling g mk a) (Vm.Alike.refl U.vm) qZ, nF.same rfl qN⟩, va_recv hK hP (ci := 6) (q0 := a) rfl (wld_o ct ad G s7.2 hc hk (by decide)), fun U hU hW => ⟨rfl, by rw [hU], by rw [hU]; exact hP, va_K.moved hW.alike hK, hD.weaken (fun _ _ _ _ => trivial), by rw [hU]; exact ((hZ.kept hS.2.1).narrow hf9).moved hW.alike, hN.warm hW⟩⟩ rfl rfl hl.1 rfl (lv_room (Nat.le_of_ble_eq_true rfl)) dX6_predictFour_198 ⟨(Nat.zero_le _), (Nat.zero_le _)⟩) hS (fun q _ h => hf9 q h) hf9 (fun r u t H locs ht hvm hw hB hz1 hk1 hS => ?_)
              obtain ⟨hP, hK9, hD9⟩ := hB
              rw [ht] at hP
              try dsimp only at hw
              subst hw
              have hD := hD9.weaken (fun _ q _ h => hf9 q.1 h)
              refine lv_istore (lv' := [(11, .int y75.2), (10, .int x12), (9, .int x11), (8, .int s7.1), (7, .int y2.2), (6, .int y1.2), (0, .ref (ad a)), (1, va_re ad p0), (2, .int p1), (3, .int p2), (4, .int p3), (5, .int p4)]) hx hb dX6_predictFour_201 hl (by decide) rfl (fun ls hl => ?_)
              refine lv_goto (tgt := 391) hx hb dX6_predictFour_203 (by decide) ?_
              obtain rfl := Option.some.inj hF
              exact J28 _ _ _ hP hD hS (lv_sub hl [0, 1, 2, 3, 4, 5, 6, 7, 8, 9, 10, 11] rfl)
          · rw [if_pos c27] at hF
            refine lv_iload hx hb dX6_predictFour_118 (lv_at hl 2 rfl) ?_
            refine lv_bipush (v := (15 : Int32)) hx hb dX6_predictFour_120 (by decide) ?_
            obtain ⟨y76, hy76, hF⟩ := bnd_some hF
            have J76 : ∀ (H : Heap) (locs : List Loc) (ls : Array Slot), va_P D classes (wld ct ad G y76.2) H → va_D A (wld ct ad G y76.2) → va_S A s.heap H locs → lv_has ls 14 [(10, .int x12), (9, .int x11), (8, .int s7.1), (7, .int y2.2), (6, .int y1.2), (0, .ref (ad a)), (1, va_re ad p0), (2, .int p1), (3, .int p2), (4, .int p3), (5, .int p4)] → W p l e (headSpec wuX6_predictFour ({ frames := 2, cells := 0, slots := 0, locals := 49 })).room s m ([.ref (ad a), va_re ad p0, .int p1, .int p2, .int p3, .int p4] : List Value).toArray below meth c H locs 0 0 (MQ below (va_Qv (fun (_ : Unit) => True) (fun _ t => kE D ct ad G A y t) A) ([.ref (ad a), va_re ad p0, .int p1, .int p2, .int p3, .int p4] : List Value).toArray s 0 0 A) (F0 m 165 ls [.int y76.1]) := by
              intro H locs ls hP hD hS hl
              refine lv_istore (lv' := [(11, .int y76.1), (10, .int x12), (9, .int x11), (8, .int s7.1), (7, .int y2.2), (6, .int y1.2), (0, .ref (ad a)), (1, va_re ad p0), (2, .int p1), (3, .int p2), (4, .int p3), (5, .int p4)]) hx hb dX6_predictFour_165 hl (by decide) rfl (fun ls hl => ?_)
              refine lv_goto (tgt := 391) hx hb dX6_predictFour_167 (by decide) ?_
              obtain rfl := Option.some.inj hF
              exact J26 _ _ _ hP hD hS (lv_sub hl [0, 1, 2, 3, 4, 5, 6, 7, 8, 9, 10, 11] rfl)
            clear hF
            have hF := hy76
            clear hy76
            refine lv_icmp_ne (tgt := 138) hx hb dX6_predictFour_122 (by decide) (fun c77 => ?_) (fun c77 => ?_)
            · rw [if_neg c77] at hF
              refine lv_aload_n hx hb dX6_predictFour_138 rfl (lv_at hl 5 rfl) ?_
              refine lv_iconst (v := (5 : Int32)) hx hb dX6_predictFour_139 (by decide) ?_
              refine lv_iload hx hb dX6_predictFour_140 (lv_at hl 1 rfl) ?_
              refine lv_iadd hx hb dX6_predictFour_142 ?_
              obtain ⟨x78, ex78, hF⟩ := ltt_some hF
              refine lv_topi (fun zx78 ezx78 => ?_)
              obtain rfl : x78 = zx78 := ex78.trans ezx78.symm
              refine lv_iload hx hb dX6_predictFour_143 (lv_at hl 0 rfl) ?_
              refine lv_iadd hx hb dX6_predictFour_145 ?_
              obtain ⟨x79, ex79, hF⟩ := ltt_some hF
              refine lv_topi (fun zx79 ezx79 => ?_)
              obtain rfl : x79 = zx79 := ex79.trans ezx79.symm
              refine lv_bipush (v := (6 : Int32)) hx hb dX6_predictFour_146 (by decide) ?_
              refine lv_iload hx hb dX6_predictFour_148 (lv_at hl 1 rfl) ?_
              refine lv_iadd hx hb dX6_predictFour_150 ?_
              obtain ⟨x80, ex80, hF⟩ := ltt_some hF
              refine lv_topi (fun zx80 ezx80 => ?_)
              obtain rfl : x80 = zx80 := ex80.trans ezx80.symm
              refine lv_iload hx hb dX6_predictFour_151 (lv_at hl 0 rfl) ?_
              refine lv_iadd hx hb dX6_predictFour_153 ?_
              obtain ⟨x81, ex81, hF⟩ := ltt_some hF
              refine lv_topi (fun zx81 ezx81 => ?_)
              obtain rfl : x81 = zx81 := ex81.trans ezx81.symm
              refine lv_bipush (v := (7 : Int32)) hx hb dX6_predictFour_154 (by decide) ?_
              refine lv_iload hx hb dX6_predictFour_156 (lv_at hl 1 rfl) ?_
              refine lv_iadd hx hb dX6_predictFour_158 ?_
              obtain ⟨x82, ex82, hF⟩ := ltt_some hF
              refine lv_topi (fun zx82 ezx82 => ?_)
              obtain rfl : x82 = zx82 := ex82.trans ezx82.symm
              refine lv_iload hx hb dX6_predictFour_159 (lv_at hl 0 rfl) ?_
              refine lv_iadd hx hb dX6_predictFour_161 ?_
              obtain ⟨x83, ex83, hF⟩ := ltt_some hF
              refine lv_topi (fun zx83 ezx83 => ?_)
              obtain rfl : x83 = zx83 := ex83.trans ezx83.symm
              obtain ⟨y84, hy84, hF⟩ := bnd_some hF
              have hf9 := wA_in hD hA9 hS
              refine va_calli (va_runV (As := [.int x79, .int x81, .int x83]) (rest := []) ⟨hx, hb, hml, hown, hts⟩ (kX6_three l D ct ad Z G s7.2 H.size a x79 x81 x83 y84 hc hk hy84) (cwV 3 hts gX6_predictFour_X6_three rfl rfl rfl (by decide +kernel) ⟨Nat.le_of_ble_eq_true rfl, Nat.le_of_ble_eq_true rfl⟩) ⟨fun a U g mk q => by obtain ⟨q0, q1, qP, qK, qD, qZ, qN⟩ := q; exact ⟨q0, q1, qP, va_K.moved (u := U) (U := U.calling g mk a) (Vm.Alike.refl U.vm) qK, qD, sF.moved (u := U) (U := U.calling g mk a) (Vm.Alike.refl U.vm) qZ, nF.same rfl qN⟩, va_recv hK hP (ci := 6) (q0 := a) rfl (wld_o ct ad G s7.2 hc hk (by decide)), fun U hU hW => ⟨rfl, by rw [hU], by rw [hU]; exact hP, va_K.moved hW.alike hK, hD.weaken (fun _ _ _ _ => trivial), by rw [hU]; exact ((hZ.kept hS.2.1).narrow hf9).moved hW.alike, hN.warm hW⟩⟩ rfl rfl hl.1 rfl (lv_room (Nat.le_of_ble_eq_true rfl)) dX6_predictFour_162 ⟨(Nat.zero_le _), (Nat.zero_le _)⟩) hS (fun q _ h => hf9 q h) hf9 (fun r u t H locs ht hvm hw hB hz1 hk1 hS => ?_)
              obtain ⟨hP, hK9, hD9⟩ := hB
              rw [ht] at hP
              try dsimp only at hw
              subst hw
              have hD := hD9.weaken (fun _ q _ h => hf9 q.1 h)
              obtain rfl := Option.some.inj hF
              exact J76 _ _ _ hP hD hS (lv_sub hl [0, 1, 2, 3, 4, 5, 6, 7, 8, 9, 10] rfl)
            · rw [if_pos c77] at hF
              refine lv_aload_n hx hb dX6_predictFour_125 rfl (lv_at hl 5 rfl) ?_
              refine lv_bipush (v := (11 : Int32)) hx hb dX6_predictFour_126 (by decide) ?_
              refine lv_bipush (v := (12 : Int32)) hx hb dX6_predictFour_128 (by decide) ?_
              refine lv_bipush (v := (12 : Int32)) hx hb dX6_predictFour_130 (by decide) ?_
              obtain ⟨y85, hy85, hF⟩ := bnd_some hF
              have hf9 := wA_in hD hA9 hS
              refine va_calli (va_runV (As := [.int (11 : Int32), .int (12 : Int32), .int (12 : Int32)]) (rest := []) ⟨hx, hb, hml, hown, hts⟩ (kX6_three l D ct ad Z G s7.2 H.size a ((11 : Int32)) ((12 : Int32)) ((12 : Int32)) y85 hc hk hy85) (cwV 3 hts gX6_predictFour_X6_three rfl rfl rfl (by decide +kernel) ⟨Nat.le_of_ble_eq_true rfl, Nat.le_of_ble_eq_true rfl⟩) ⟨fun a U g mk q => by obtain ⟨q0, q1, qP, qK, qD, qZ, qN⟩ := q; exact ⟨q0, q1, qP, va_K.moved (u := U) (U := U.calling g mk a) (Vm.Alike.refl U.vm) qK, qD, sF.moved (u := U) (U := U.calling g mk a) (Vm.Alike.refl U.vm) qZ, nF.same rfl qN⟩, va_recv hK hP (ci := 6) (q0 := a) rfl (wld_o ct ad G s7.2 hc hk (by decide)), fun U hU hW => ⟨rfl, by rw [hU], by rw [hU]; exact hP, va_K.moved hW.alike hK, hD.weaken (fun _ _ _ _ => trivial), by rw [hU]; exact ((hZ.kept hS.2.1).narrow hf9).moved hW.alike, hN.warm hW⟩⟩ rfl rfl hl.1 rfl (lv_room (Nat.le_of_ble_eq_true rfl)) dX6_predictFour_132 ⟨(Nat.zero_le _), (Nat.zero_le _)⟩) hS (fun q _ h => hf9 q h) hf9 (fun r u t H locs ht hvm hw hB hz1 hk1 hS => ?_)
              obtain ⟨hP, hK9, hD9⟩ := hB
              rw [ht] at hP
              try dsimp only at hw
              subst hw
              have hD := hD9.weaken (fun _ q _ h => hf9 q.1 h)
              refine lv_goto (tgt := 165) hx hb dX6_predictFour_135 (by decide) ?_
              obtain rfl := Option.some.inj hF
              exact J76 _ _ _ hP hD hS (lv_sub hl [0, 1, 2, 3, 4, 5, 6, 7, 8, 9, 10] rfl)
        · rw [if_pos c25] at hF
          refine lv_aload_n hx hb dX6_predictFour_101 rfl (lv_at hl 5 rfl) ?_
          refine lv_iload hx hb dX6_predictFour_102 (lv_at hl 10 rfl) ?_
          obtain ⟨y86, hy86, hF⟩ := bnd_some hF
          have hf9 := wA_in hD hA9 hS
          refine va_calli (va_runV (As := [.int p4]) (rest := []) ⟨hx, hb, hml, hown, hts⟩ (kX6_meanAround l D ct ad Z G s7.2 H.size a p4 y86 hc hk hy86) (cwV 1 hts gX6_predictFour_X6_meanAround rfl rfl rfl (by decide +kernel) ⟨Nat.le_of_ble_eq_true rfl, Nat.le_of_ble_eq_true rfl⟩) ⟨fun a U g mk q => by obtain ⟨q0, q1, qP, qK, qD, qZ, qN⟩ := q; exact ⟨q0, q1, qP, va_K.moved (u := U) (U := U.calling g mk a) (Vm.Alike.refl U.vm) qK, qD, sF.moved (u := U) (U := U.calling g mk a) (Vm.Alike.refl U.vm) qZ, nF.same rfl qN⟩, va_recv hK hP (ci := 6) (q0 := a) rfl (wld_o ct ad G s7.2 hc hk (by decide)), fun U hU hW => ⟨rfl, by rw [hU], by rw [hU]; exact hP, va_K.moved hW.alike hK, hD.weaken (fun _ _ _ _ => trivial), by rw [hU]; exact ((hZ.kept hS.2.1).narrow hf9).moved hW.alike, hN.warm hW⟩⟩ rfl rfl hl.1 rfl (lv_room (Nat.le_of_ble_eq_true rfl)) dX6_predictFour_104 ⟨(Nat.zero_le _), (Nat.zero_le _)⟩) hS (fun q _ h => hf9 q h) hf9 (fun r u t H locs ht hvm hw hB hz1 hk1 hS => ?_)
          obtain ⟨hP, hK9, hD9⟩ := hB
          rw [ht] at hP
          try dsimp only at hw
          subst hw
          have hD := hD9.weaken (fun _ q _ h => hf9 q.1 h)
          refine lv_istore (lv' := [(11, .int y86.2), (10, .int x12), (9, .int x11), (8, .int s7.1), (7, .int y2.2), (6, .int y1.2), (0, .ref (ad a)), (1, va_re ad p0), (2, .int p1), (3, .int p2), (4, .int p3), (5, .int p4)]) hx hb dX6_predictFour_107 hl (by decide) rfl (fun ls hl => ?_)
          refine lv_goto (tgt := 391) hx hb dX6_predictFour_109 (by decide) ?_
          obtain rfl := Option.some.inj hF
          exact J24 _ _ _ hP hD hS (lv_sub hl [0, 1, 2, 3, 4, 5, 6, 7, 8, 9, 10, 11] rfl)
      · rw [if_pos c23] at hF
        refine lv_aload_n hx hb dX6_predictFour_81 rfl (lv_at hl 5 rfl) ?_
        refine va_get (D := D) (ci := 6) (v := va_re ad (s7.2.2 a 8)) (C := RX6) (T := TX6) (N := 14) hx hb hts (mus hf_X6) hown hK hP a (wld_o ct ad G s7.2 hc hk (by decide)) rfl 8 (by decide) (hts (.fieldLink RX6 36 "VideoSuite$Samples" "around" "[I") (mu mw_544)) (fun _ h9 => h9) rfl dX6_predictFour_82 ?_
        refine lv_iconst (v := (3 : Int32)) hx hb dX6_predictFour_85 (by decide) ?_
        refine lv_iload hx hb dX6_predictFour_86 (lv_at hl 0 rfl) ?_
        refine lv_isub hx hb dX6_predictFour_88 ?_
        obtain ⟨x87, ex87, hF⟩ := ltt_some hF
        refine lv_topi (fun zx87 ezx87 => ?_)
        obtain rfl : x87 = zx87 := ex87.trans ezx87.symm
        obtain ⟨b88, ho88, hc88, hk88, hF⟩ := dr_some hF
        refine W_st (st' := [.int x87, .ref (ad b88)]) (by rw [va_some ho88]) ?_
        obtain ⟨hvc, hF⟩ := chk_some hF
        refine va_iald hx hb hK hP b88 1 (wld_i ct ad G s7.2 hc88 hk88) rfl hvc dX6_predictFour_89 ?_
        obtain ⟨x89, ex89, hF⟩ := ltt_some hF
        refine lv_topi (fun zx89 ezx89 => ?_)
        obtain rfl : x89 = zx89 := ex89.trans ezx89.symm
        refine lv_istore (lv' := [(11, .int x89), (10, .int x12), (9, .int x11), (8, .int s7.1), (7, .int y2.2), (6, .int y1.2), (0, .ref (ad a)), (1, va_re ad p0), (2, .int p1), (3, .int p2), (4, .int p3), (5, .int p4)]) hx hb dX6_predictFour_90 hl (by decide) rfl (fun ls hl => ?_)
        refine lv_goto (tgt := 391) hx hb dX6_predictFour_92 (by decide) ?_
        obtain rfl := Option.some.inj hF
        exact J22 _ _ _ hP hD hS (lv_sub hl [0, 1, 2, 3, 4, 5, 6, 7, 8, 9, 10, 11] rfl)
    · rw [if_pos c21] at hF
      refine lv_aload_n hx hb dX6_predictFour_61 rfl (lv_at hl 5 rfl) ?_
      refine va_get (D := D) (ci := 6) (v := va_re ad (s7.2.2 a 8)) (C := RX6) (T := TX6) (N := 14) hx hb hts (mus hf_X6) hown hK hP a (wld_o ct ad G s7.2 hc hk (by decide)) rfl 8 (by decide) (hts (.fieldLink RX6 36 "VideoSuite$Samples" "around" "[I") (mu mw_544)) (fun _ h9 => h9) rfl dX6_predictFour_62 ?_
      refine lv_iconst (v := (5 : Int32)) hx hb dX6_predictFour_65 (by decide) ?_
      refine lv_iload hx hb dX6_predictFour_66 (lv_at hl 1 rfl) ?_
      refine lv_iadd hx hb dX6_predictFour_68 ?_
      obtain ⟨x90, ex90, hF⟩ := ltt_some hF
      refine lv_topi (fun zx90 ezx90 => ?_)
      obtain rfl : x90 = zx90 := ex90.trans ezx90.symm
      obtain ⟨b91, ho91, hc91, hk91, hF⟩ := dr_some hF
      refine W_st (st' := [.int x90, .ref (ad b91)]) (by rw [va_some ho91]) ?_
      obtain ⟨hvc, hF⟩ := chk_some hF
      refine va_iald hx hb hK hP b91 1 (wld_i ct ad G s7.2 hc91 hk91) rfl hvc dX6_predictFour_69 ?_
      obtain ⟨x92, ex92, hF⟩ := ltt_some hF
      refine lv_topi (fun zx92 ezx92 => ?_)
      obtain rfl : x92 = zx92 := ex92.trans ezx92.symm
      refine lv_istore (lv' := [(11, .int x92), (10, .int x12), (9, .int x11), (8, .int s7.1), (7, .int y2.2), (6, .int y1.2), (0, .ref (ad a)), (1, va_re ad p0), (2, .int p1), (3, .int p2), (4, .int p3), (5, .int p4)]) hx hb dX6_predictFour_70 hl (by decide) rfl (fun ls hl => ?_)
      refine lv_goto (tgt := 391) hx hb dX6_predictFour_72 (by decide) ?_
      obtain rfl := Option.some.inj hF
      exact J13 _ _ _ hP hD hS (lv_sub hl [0, 1, 2, 3, 4, 5, 6, 7, 8, 9, 10, 11] rfl)
