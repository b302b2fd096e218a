set_option maxRecDepth 20000 in
theorem gX0_writeHeader_X10_ue : GoodIn wuX0_writeHeader (wsV RX0 162 RX10 yX10_ue wuX10_ue) := gu_V mw_1169 mw_1170 mw_1171 mw_176 mw_1172
set_option maxRecDepth 20000 in
set_option maxRecDepth 20000 in
theorem gX0_writeHeader_X10_code : GoodIn wuX0_writeHeader (wsV RX0 150 RX10 yX10_code wuX10_code) := gu_V mw_1140 mw_1141 mw_1142 mw_176 mw_1143
set_option maxRecDepth 20000 in
set_option maxRecDepth 20000 in
theorem gX0_writeHeader_X3_isOwn : GoodIn wuX0_writeHeader (wsV RX0 312 RX3 yX3_isOwn wuX3_isOwn) := gu_V mw_2459 mw_1005 mw_1006 mw_174 mw_1007
set_option maxRecDepth 20000 in
set_option maxRecDepth 20000 in
theorem gX0_writeHeader_X10_se : GoodIn wuX0_writeHeader (wsV RX0 169 RX10 yX10_se wuX10_se) := gu_V mw_1181 mw_1182 mw_1183 mw_176 mw_1184
set_option maxRecDepth 20000 in
set_option maxRecDepth 20000 in
theorem gX0_writeHeader_X10_beginData : GoodIn wuX0_writeHeader (wsV RX0 322 RX10 yX10_beginData wuX10_beginData) := gu_V mw_2474 mw_2475 mw_2476 mw_176 mw_2477
set_option maxRecDepth 20000 in
theorem gX0_writeHeader_X0_flag : GoodIn wuX0_writeHeader (wsV RX0 166 RX0 yX0_flag wuX0_flag) := gu_V mw_1177 mw_1179 mw_28 mw_175 mw_1180
set_option maxRecDepth 20000 in
set_option maxRecDepth 20000 in
theorem gX0_writeHeader_X0_writeWeights : GoodIn wuX0_writeHeader (wsV RX0 319 RX0 yX0_writeWeights wuX0_writeWeights) := gu_V mw_2464 mw_2466 mw_120 mw_175 mw_2467
set_option maxRecDepth 20000 in
set_option maxRecDepth 20000 in
theorem gX0_writeHeader_X0_writeLists : GoodIn wuX0_writeHeader (wsV RX0 316 RX0 yX0_writeLists wuX0_writeLists) := gu_V mw_2460 mw_2462 mw_119 mw_175 mw_2463
set_option maxRecDepth 20000 in
theorem dX0_writeHeader_0 : decode cX0_writeHeader 0 = .ok (.aload_n 0, 1) := by decide +kernel
theorem dX0_writeHeader_1 : decode cX0_writeHeader 1 = .ok (.getfield 36, 3) := by decide +kernel
theorem dX0_writeHeader_4 : decode cX0_writeHeader 4 = .ok (.getfield 81, 3) := by decide +kernel
theorem dX0_writeHeader_7 : decode cX0_writeHeader 7 = .ok (.getfield 252, 3) := by decide +kernel
theorem dX0_writeHeader_10 : decode cX0_writeHeader 10 = .ok (.astore_n 1, 1) := by decide +kernel
theorem dX0_writeHeader_11 : decode cX0_writeHeader 11 = .ok (.aload_n 0, 1) := by decide +kernel
theorem dX0_writeHeader_12 : decode cX0_writeHeader 12 = .ok (.getfield 29, 3) := by decide +kernel
theorem dX0_writeHeader_15 : decode cX0_writeHeader 15 = .ok (.iconst 0, 1) := by decide +kernel
theorem dX0_writeHeader_16 : decode cX0_writeHeader 16 = .ok (.aload_n 1, 1) := by decide +kernel
theorem dX0_writeHeader_17 : decode cX0_writeHeader 17 = .ok (.iconst 0, 1) := by decide +kernel
theorem dX0_writeHeader_18 : decode cX0_writeHeader 18 = .ok (.iaload, 1) := by decide +kernel
theorem dX0_writeHeader_19 : decode cX0_writeHeader 19 = .ok (.invokevirtual 162, 3) := by decide +kernel
theorem dX0_writeHeader_22 : decode cX0_writeHeader 22 = .ok (.aload_n 0, 1) := by decide +kernel
theorem dX0_writeHeader_23 : decode cX0_writeHeader 23 = .ok (.getfield 29, 3) := by decide +kernel
theorem dX0_writeHeader_26 : decode cX0_writeHeader 26 = .ok (.iconst 0, 1) := by decide +kernel
theorem dX0_writeHeader_27 : decode cX0_writeHeader 27 = .ok (.aload_n 1, 1) := by decide +kernel
theorem dX0_writeHeader_28 : decode cX0_writeHeader 28 = .ok (.iconst 1, 1) := by decide +kernel
theorem dX0_writeHeader_29 : decode cX0_writeHeader 29 = .ok (.iaload, 1) := by decide +kernel
theorem dX0_writeHeader_30 : decode cX0_writeHeader 30 = .ok (.invokevirtual 162, 3) := by decide +kernel
theorem dX0_writeHeader_33 : decode cX0_writeHeader 33 = .ok (.aload_n 0, 1) := by decide +kernel
theorem dX0_writeHeader_34 : decode cX0_writeHeader 34 = .ok (.getfield 29, 3) := by decide +kernel
theorem dX0_writeHeader_37 : decode cX0_writeHeader 37 = .ok (.iconst 0, 1) := by decide +kernel
theorem dX0_writeHeader_38 : decode cX0_writeHeader 38 = .ok (.iconst 0, 1) := by decide +kernel
theorem dX0_writeHeader_39 : decode cX0_writeHeader 39 = .ok (.invokevirtual 162, 3) := by decide +kernel
theorem dX0_writeHeader_42 : decode cX0_writeHeader 42 = .ok (.aload_n 0, 1) := by decide +kernel
theorem dX0_writeHeader_43 : decode cX0_writeHeader 43 = .ok (.getfield 29, 3) := by decide +kernel
theorem dX0_writeHeader_46 : decode cX0_writeHeader 46 = .ok (.iconst 0, 1) := by decide +kernel
theorem dX0_writeHeader_47 : decode cX0_writeHeader 47 = .ok (.aload_n 1, 1) := by decide +kernel
theorem dX0_writeHeader_48 : decode cX0_writeHeader 48 = .ok (.iconst 3, 1) := by decide +kernel
theorem dX0_writeHeader_49 : decode cX0_writeHeader 49 = .ok (.iaload, 1) := by decide +kernel
theorem dX0_writeHeader_50 : decode cX0_writeHeader 50 = .ok (.i2l, 1) := by decide +kernel
theorem dX0_writeHeader_51 : decode cX0_writeHeader 51 = .ok (.bipush 8, 2) := by decide +kernel
theorem dX0_writeHeader_53 : decode cX0_writeHeader 53 = .ok (.invokevirtual 150, 3) := by decide +kernel
theorem dX0_writeHeader_56 : decode cX0_writeHeader 56 = .ok (.aload_n 0, 1) := by decide +kernel
theorem dX0_writeHeader_57 : decode cX0_writeHeader 57 = .ok (.getfield 36, 3) := by decide +kernel
theorem dX0_writeHeader_60 : decode cX0_writeHeader 60 = .ok (.getfield 81, 3) := by decide +kernel
theorem dX0_writeHeader_63 : decode cX0_writeHeader 63 = .ok (.invokevirtual 312, 3) := by decide +kernel
theorem dX0_writeHeader_66 : decode cX0_writeHeader 66 = .ok (.ifCond .eq 14, 3) := by decide +kernel
theorem dX0_writeHeader_69 : decode cX0_writeHeader 69 = .ok (.aload_n 0, 1) := by decide +kernel
theorem dX0_writeHeader_70 : decode cX0_writeHeader 70 = .ok (.getfield 29, 3) := by decide +kernel
theorem dX0_writeHeader_73 : decode cX0_writeHeader 73 = .ok (.iconst 0, 1) := by decide +kernel
theorem dX0_writeHeader_74 : decode cX0_writeHeader 74 = .ok (.aload_n 1, 1) := by decide +kernel
theorem dX0_writeHeader_75 : decode cX0_writeHeader 75 = .ok (.iconst 4, 1) := by decide +kernel
theorem dX0_writeHeader_76 : decode cX0_writeHeader 76 = .ok (.iaload, 1) := by decide +kernel
theorem dX0_writeHeader_77 : decode cX0_writeHeader 77 = .ok (.invokevirtual 162, 3) := by decide +kernel
theorem dX0_writeHeader_80 : decode cX0_writeHeader 80 = .ok (.aload_n 0, 1) := by decide +kernel
theorem dX0_writeHeader_81 : decode cX0_writeHeader 81 = .ok (.getfield 23, 3) := by decide +kernel
theorem dX0_writeHeader_84 : decode cX0_writeHeader 84 = .ok (.bipush 18, 2) := by decide +kernel
theorem dX0_writeHeader_86 : decode cX0_writeHeader 86 = .ok (.iaload, 1) := by decide +kernel
theorem dX0_writeHeader_87 : decode cX0_writeHeader 87 = .ok (.ifCond .ne 17, 3) := by decide +kernel
theorem dX0_writeHeader_90 : decode cX0_writeHeader 90 = .ok (.aload_n 0, 1) := by decide +kernel
theorem dX0_writeHeader_91 : decode cX0_writeHeader 91 = .ok (.getfield 29, 3) := by decide +kernel
theorem dX0_writeHeader_94 : decode cX0_writeHeader 94 = .ok (.iconst 0, 1) := by decide +kernel
theorem dX0_writeHeader_95 : decode cX0_writeHeader 95 = .ok (.aload_n 1, 1) := by decide +kernel
theorem dX0_writeHeader_96 : decode cX0_writeHeader 96 = .ok (.iconst 5, 1) := by decide +kernel
theorem dX0_writeHeader_97 : decode cX0_writeHeader 97 = .ok (.iaload, 1) := by decide +kernel
theorem dX0_writeHeader_98 : decode cX0_writeHeader 98 = .ok (.i2l, 1) := by decide +kernel
theorem dX0_writeHeader_99 : decode cX0_writeHeader 99 = .ok (.bipush 8, 2) := by decide +kernel
theorem dX0_writeHeader_101 : decode cX0_writeHeader 101 = .ok (.invokevirtual 150, 3) := by decide +kernel
theorem dX0_writeHeader_104 : decode cX0_writeHeader 104 = .ok (.aload_n 1, 1) := by decide +kernel
theorem dX0_writeHeader_105 : decode cX0_writeHeader 105 = .ok (.iconst 1, 1) := by decide +kernel
theorem dX0_writeHeader_106 : decode cX0_writeHeader 106 = .ok (.iaload, 1) := by decide +kernel
theorem dX0_writeHeader_107 : decode cX0_writeHeader 107 = .ok (.iconst 2, 1) := by decide +kernel
theorem dX0_writeHeader_108 : decode cX0_writeHeader 108 = .ok (.if_icmp .eq 7, 3) := by decide +kernel
theorem dX0_writeHeader_111 : decode cX0_writeHeader 111 = .ok (.aload_n 0, 1) := by decide +kernel
theorem dX0_writeHeader_112 : decode cX0_writeHeader 112 = .ok (.invokevirtual 316, 3) := by decide +kernel
theorem dX0_writeHeader_115 : decode cX0_writeHeader 115 = .ok (.aload_n 1, 1) := by decide +kernel
theorem dX0_writeHeader_116 : decode cX0_writeHeader 116 = .ok (.iconst 1, 1) := by decide +kernel
theorem dX0_writeHeader_117 : decode cX0_writeHeader 117 = .ok (.iaload, 1) := by decide +kernel
theorem dX0_writeHeader_118 : decode cX0_writeHeader 118 = .ok (.ifCond .ne 18, 3) := by decide +kernel
theorem dX0_writeHeader_121 : decode cX0_writeHeader 121 = .ok (.aload_n 0, 1) := by decide +kernel
theorem dX0_writeHeader_122 : decode cX0_writeHeader 122 = .ok (.getfield 23, 3) := by decide +kernel
theorem dX0_writeHeader_125 : decode cX0_writeHeader 125 = .ok (.bipush 20, 2) := by decide +kernel
theorem dX0_writeHeader_127 : decode cX0_writeHeader 127 = .ok (.iaload, 1) := by decide +kernel
theorem dX0_writeHeader_128 : decode cX0_writeHeader 128 = .ok (.iconst 1, 1) := by decide +kernel
theorem dX0_writeHeader_129 : decode cX0_writeHeader 129 = .ok (.if_icmp .ne 7, 3) := by decide +kernel
theorem dX0_writeHeader_132 : decode cX0_writeHeader 132 = .ok (.aload_n 0, 1) := by decide +kernel
theorem dX0_writeHeader_133 : decode cX0_writeHeader 133 = .ok (.invokevirtual 319, 3) := by decide +kernel
theorem dX0_writeHeader_136 : decode cX0_writeHeader 136 = .ok (.aload_n 1, 1) := by decide +kernel
theorem dX0_writeHeader_137 : decode cX0_writeHeader 137 = .ok (.bipush 11, 2) := by decide +kernel
theorem dX0_writeHeader_139 : decode cX0_writeHeader 139 = .ok (.iaload, 1) := by decide +kernel
theorem dX0_writeHeader_140 : decode cX0_writeHeader 140 = .ok (.ifCond .eq 8, 3) := by decide +kernel
theorem dX0_writeHeader_143 : decode cX0_writeHeader 143 = .ok (.aload_n 0, 1) := by decide +kernel
theorem dX0_writeHeader_144 : decode cX0_writeHeader 144 = .ok (.iconst 0, 1) := by decide +kernel
theorem dX0_writeHeader_145 : decode cX0_writeHeader 145 = .ok (.invokevirtual 166, 3) := by decide +kernel
theorem dX0_writeHeader_148 : decode cX0_writeHeader 148 = .ok (.aload_n 0, 1) := by decide +kernel
theorem dX0_writeHeader_149 : decode cX0_writeHeader 149 = .ok (.getfield 36, 3) := by decide +kernel
theorem dX0_writeHeader_152 : decode cX0_writeHeader 152 = .ok (.getfield 81, 3) := by decide +kernel
theorem dX0_writeHeader_155 : decode cX0_writeHeader 155 = .ok (.invokevirtual 312, 3) := by decide +kernel
theorem dX0_writeHeader_158 : decode cX0_writeHeader 158 = .ok (.ifCond .eq 8, 3) := by decide +kernel
theorem dX0_writeHeader_161 : decode cX0_writeHeader 161 = .ok (.aload_n 0, 1) := by decide +kernel
theorem dX0_writeHeader_162 : decode cX0_writeHeader 162 = .ok (.iconst 0, 1) := by decide +kernel
theorem dX0_writeHeader_163 : decode cX0_writeHeader 163 = .ok (.invokevirtual 166, 3) := by decide +kernel
theorem dX0_writeHeader_166 : decode cX0_writeHeader 166 = .ok (.aload_n 0, 1) := by decide +kernel
theorem dX0_writeHeader_167 : decode cX0_writeHeader 167 = .ok (.getfield 36, 3) := by decide +kernel
theorem dX0_writeHeader_170 : decode cX0_writeHeader 170 = .ok (.getfield 85, 3) := by decide +kernel
theorem dX0_writeHeader_173 : decode cX0_writeHeader 173 = .ok (.iconst 1, 1) := by decide +kernel
theorem dX0_writeHeader_174 : decode cX0_writeHeader 174 = .ok (.iaload, 1) := by decide +kernel
theorem dX0_writeHeader_175 : decode cX0_writeHeader 175 = .ok (.iconst 1, 1) := by decide +kernel
theorem dX0_writeHeader_176 : decode cX0_writeHeader 176 = .ok (.if_icmp .ne 19, 3) := by decide +kernel
theorem dX0_writeHeader_179 : decode cX0_writeHeader 179 = .ok (.aload_n 1, 1) := by decide +kernel
theorem dX0_writeHeader_180 : decode cX0_writeHeader 180 = .ok (.iconst 1, 1) := by decide +kernel
theorem dX0_writeHeader_181 : decode cX0_writeHeader 181 = .ok (.iaload, 1) := by decide +kernel
theorem dX0_writeHeader_182 : decode cX0_writeHeader 182 = .ok (.iconst 2, 1) := by decide +kernel
theorem dX0_writeHeader_183 : decode cX0_writeHeader 183 = .ok (.if_icmp .eq 12, 3) := by decide +kernel
theorem dX0_writeHeader_186 : decode cX0_writeHeader 186 = .ok (.aload_n 0, 1) := by decide +kernel
theorem dX0_writeHeader_187 : decode cX0_writeHeader 187 = .ok (.getfield 29, 3) := by decide +kernel
theorem dX0_writeHeader_190 : decode cX0_writeHeader 190 = .ok (.iconst 0, 1) := by decide +kernel
theorem dX0_writeHeader_191 : decode cX0_writeHeader 191 = .ok (.iconst 0, 1) := by decide +kernel
theorem dX0_writeHeader_192 : decode cX0_writeHeader 192 = .ok (.invokevirtual 162, 3) := by decide +kernel
theorem dX0_writeHeader_195 : decode cX0_writeHeader 195 = .ok (.aload_n 0, 1) := by decide +kernel
theorem dX0_writeHeader_196 : decode cX0_writeHeader 196 = .ok (.getfield 29, 3) := by decide +kernel
theorem dX0_writeHeader_199 : decode cX0_writeHeader 199 = .ok (.iconst 0, 1) := by decide +kernel
theorem dX0_writeHeader_200 : decode cX0_writeHeader 200 = .ok (.aload_n 1, 1) := by decide +kernel
theorem dX0_writeHeader_201 : decode cX0_writeHeader 201 = .ok (.bipush 12, 2) := by decide +kernel
theorem dX0_writeHeader_203 : decode cX0_writeHeader 203 = .ok (.iaload, 1) := by decide +kernel
theorem dX0_writeHeader_204 : decode cX0_writeHeader 204 = .ok (.aload_n 0, 1) := by decide +kernel
theorem dX0_writeHeader_205 : decode cX0_writeHeader 205 = .ok (.getfield 23, 3) := by decide +kernel
theorem dX0_writeHeader_208 : decode cX0_writeHeader 208 = .ok (.iconst 3, 1) := by decide +kernel
theorem dX0_writeHeader_209 : decode cX0_writeHeader 209 = .ok (.iaload, 1) := by decide +kernel
theorem dX0_writeHeader_210 : decode cX0_writeHeader 210 = .ok (.isub, 1) := by decide +kernel
theorem dX0_writeHeader_211 : decode cX0_writeHeader 211 = .ok (.invokevirtual 169, 3) := by decide +kernel
theorem dX0_writeHeader_214 : decode cX0_writeHeader 214 = .ok (.aload_n 0, 1) := by decide +kernel
theorem dX0_writeHeader_215 : decode cX0_writeHeader 215 = .ok (.getfield 29, 3) := by decide +kernel
theorem dX0_writeHeader_218 : decode cX0_writeHeader 218 = .ok (.iconst 0, 1) := by decide +kernel
theorem dX0_writeHeader_219 : decode cX0_writeHeader 219 = .ok (.aload_n 1, 1) := by decide +kernel
theorem dX0_writeHeader_220 : decode cX0_writeHeader 220 = .ok (.bipush 13, 2) := by decide +kernel
theorem dX0_writeHeader_222 : decode cX0_writeHeader 222 = .ok (.iaload, 1) := by decide +kernel
theorem dX0_writeHeader_223 : decode cX0_writeHeader 223 = .ok (.invokevirtual 162, 3) := by decide +kernel
theorem dX0_writeHeader_226 : decode cX0_writeHeader 226 = .ok (.aload_n 1, 1) := by decide +kernel
theorem dX0_writeHeader_227 : decode cX0_writeHeader 227 = .ok (.bipush 13, 2) := by decide +kernel
theorem dX0_writeHeader_229 : decode cX0_writeHeader 229 = .ok (.iaload, 1) := by decide +kernel
theorem dX0_writeHeader_230 : decode cX0_writeHeader 230 = .ok (.iconst 1, 1) := by decide +kernel
theorem dX0_writeHeader_231 : decode cX0_writeHeader 231 = .ok (.if_icmp .eq 27, 3) := by decide +kernel
theorem dX0_writeHeader_234 : decode cX0_writeHeader 234 = .ok (.aload_n 0, 1) := by decide +kernel
theorem dX0_writeHeader_235 : decode cX0_writeHeader 235 = .ok (.getfield 29, 3) := by decide +kernel
theorem dX0_writeHeader_238 : decode cX0_writeHeader 238 = .ok (.iconst 0, 1) := by decide +kernel
theorem dX0_writeHeader_239 : decode cX0_writeHeader 239 = .ok (.aload_n 1, 1) := by decide +kernel
theorem dX0_writeHeader_240 : decode cX0_writeHeader 240 = .ok (.bipush 14, 2) := by decide +kernel
theorem dX0_writeHeader_242 : decode cX0_writeHeader 242 = .ok (.iaload, 1) := by decide +kernel
theorem dX0_writeHeader_243 : decode cX0_writeHeader 243 = .ok (.invokevirtual 169, 3) := by decide +kernel
theorem dX0_writeHeader_246 : decode cX0_writeHeader 246 = .ok (.aload_n 0, 1) := by decide +kernel
theorem dX0_writeHeader_247 : decode cX0_writeHeader 247 = .ok (.getfield 29, 3) := by decide +kernel
theorem dX0_writeHeader_250 : decode cX0_writeHeader 250 = .ok (.iconst 0, 1) := by decide +kernel
theorem dX0_writeHeader_251 : decode cX0_writeHeader 251 = .ok (.aload_n 1, 1) := by decide +kernel
theorem dX0_writeHeader_252 : decode cX0_writeHeader 252 = .ok (.bipush 15, 2) := by decide +kernel
theorem dX0_writeHeader_254 : decode cX0_writeHeader 254 = .ok (.iaload, 1) := by decide +kernel
theorem dX0_writeHeader_255 : decode cX0_writeHeader 255 = .ok (.invokevirtual 169, 3) := by decide +kernel
theorem dX0_writeHeader_258 : decode cX0_writeHeader 258 = .ok (.aload_n 0, 1) := by decide +kernel
theorem dX0_writeHeader_259 : decode cX0_writeHeader 259 = .ok (.getfield 36, 3) := by decide +kernel
theorem dX0_writeHeader_262 : decode cX0_writeHeader 262 = .ok (.getfield 85, 3) := by decide +kernel
theorem dX0_writeHeader_265 : decode cX0_writeHeader 265 = .ok (.iconst 1, 1) := by decide +kernel
theorem dX0_writeHeader_266 : decode cX0_writeHeader 266 = .ok (.iaload, 1) := by decide +kernel
theorem dX0_writeHeader_267 : decode cX0_writeHeader 267 = .ok (.iconst 1, 1) := by decide +kernel
theorem dX0_writeHeader_268 : decode cX0_writeHeader 268 = .ok (.if_icmp .ne 10, 3) := by decide +kernel
theorem dX0_writeHeader_271 : decode cX0_writeHeader 271 = .ok (.aload_n 0, 1) := by decide +kernel
theorem dX0_writeHeader_272 : decode cX0_writeHeader 272 = .ok (.getfield 29, 3) := by decide +kernel
theorem dX0_writeHeader_275 : decode cX0_writeHeader 275 = .ok (.invokevirtual 322, 3) := by decide +kernel
theorem dX0_writeHeader_278 : decode cX0_writeHeader 278 = .ok (.return_, 1) := by decide +kernel
noncomputable def FX0_writeHeader (G : GG) (M : DD) (a : Nat)  : Option (NN × DD) :=
  dr (xt G []) 9 ((M.2 a 3)) fun b2 =>
  dr (xt G []) 3 ((M.2 b2 1)) fun b3 =>
  dr (xt G []) 13 ((M.2 b3 0)) fun b4 =>
  chk (¬ (((0 : Int32)) < 0 ∨ (xt G []).2.2 b4 ≤ ((0 : Int32)).toNatClampNeg)) <|
  ltt (M.1 b4 ((0 : Int32)).toNatClampNeg) fun x5 =>
  dr (xt G []) 10 ((M.2 a 2)) fun b6 =>
  chk (okd (xt G []) ((M.2 b3 0)) = true) <|
  bnd (FX10_ue (xt G []) M b6 ((0 : Int32)) x5) fun y7 =>
  app y7.1 <|
  ltt ([] ++ y7.1) fun L10 =>
  chk (¬ (((1 : Int32)) < 0 ∨ (xt G L10).2.2 b4 ≤ ((1 : Int32)).toNatClampNeg)) <|
  ltt (y7.2.1 b4 ((1 : Int32)).toNatClampNeg) fun x13 =>
  dr (xt G L10) 10 ((y7.2.2 a 2)) fun b14 =>
  chk (okd (xt G L10) ((M.2 b3 0)) = true) <|
  bnd (FX10_ue (xt G L10) y7.2 b14 ((0 : Int32)) x13) fun y15 =>
  app y15.1 <|
  ltt (L10 ++ y15.1) fun L18 =>
  dr (xt G L18) 10 ((y15.2.2 a 2)) fun b21 =>
  chk (okd (xt G L18) ((M.2 b3 0)) = true) <|
  bnd (FX10_ue (xt G L18) y15.2 b21 ((0 : Int32)) ((0 : Int32))) fun y22 =>
  app y22.1 <|
  ltt (L18 ++ y22.1) fun L25 =>
  chk (¬ (((3 : Int32)) < 0 ∨ (xt G L25).2.2 b4 ≤ ((3 : Int32)).toNatClampNeg)) <|
  ltt (y22.2.1 b4 ((3 : Int32)).toNatClampNeg) fun x28 =>
  ltt (x28.toInt64) fun x29 =>
  dr (xt G L25) 10 ((y22.2.2 a 2)) fun b30 =>
  chk (okd (xt G L25) ((M.2 b3 0)) = true) <|
  bnd (FX10_code (xt G L25) y22.2 b30 ((0 : Int32)) x29 ((8 : Int32))) fun y31 =>
  app y31.1 <|
  ltt (L25 ++ y31.1) fun L34 =>
  dr (xt G L34) 9 ((y31.2.2 a 3)) fun b37 =>
  dr (xt G L34) 3 ((y31.2.2 b37 1)) fun b38 =>
  bnd (FX3_isOwn (xt G L34) y31.2 b38) fun y39 =>
  bnd (if y39.2 = ((0 : Int32)) then (some ([], y39.1)) else
  (chk (¬ (((4 : Int32)) < 0 ∨ (xt G L34).2.2 b4 ≤ ((4 : Int32)).toNatClampNeg)) <|
  ltt (y39.1.1 b4 ((4 : Int32)).toNatClampNeg) fun x204 =>
  dr (xt G L34) 10 ((y39.1.2 a 2)) fun b205 =>
  chk (okd (xt G L34) ((M.2 b3 0)) = true) <|
  bnd (FX10_ue (xt G L34) y39.1 b205 ((0 : Int32)) x204) fun y206 =>
  app y206.1 <|
  ltt (L34 ++ y206.1) fun L209 =>
  some ([], y206.2))) fun (y40 : NN × DD) =>
  app y40.1 <|
  ltt (L34 ++ y40.1) fun L42 =>
  dr (xt G L42) 13 ((y40.2.2 a 1)) fun b44 =>
  chk (¬ (((18 : Int32)) < 0 ∨ (xt G L42).2.2 b44 ≤ ((18 : Int32)).toNatClampNeg)) <|
  ltt (y40.2.1 b44 ((18 : Int32)).toNatClampNeg) fun x45 =>
  bnd (if x45 = ((0 : Int32)) then (chk (¬ (((5 : Int32)) < 0 ∨ (xt G L42).2.2 b4 ≤ ((5 : Int32)).toNatClampNeg)) <|
  ltt (y40.2.1 b4 ((5 : Int32)).toNatClampNeg) fun x193 =>
  ltt (x193.toInt64) fun x194 =>
  dr (xt G L42) 10 ((y40.2.2 a 2)) fun b195 =>
  chk (okd (xt G L42) ((M.2 b3 0)) = true) <|
  bnd (FX10_code (xt G L42) y40.2 b195 ((0 : Int32)) x194 ((8 : Int32))) fun y196 =>
  app y196.1 <|
  ltt (L42 ++ y196.1) fun L199 =>
  some ([], y196.2)) else
  (some ([], y40.2))) fun (y46 : NN × DD) =>
  app y46.1 <|
  ltt (L42 ++ y46.1) fun L48 =>
  chk (¬ (((1 : Int32)) < 0 ∨ (xt G L48).2.2 b4 ≤ ((1 : Int32)).toNatClampNeg)) <|
  ltt (y46.2.1 b4 ((1 : Int32)).toNatClampNeg) fun x50 =>
  bnd (if x50 = ((2 : Int32)) then (some ([], y46.2)) else
  (chk (okd (xt G L48) ((M.2 b3 0)) = true) <|
  bnd (FX0_writeLists (xt G L48) y46.2 a) fun y185 =>
  app y185.1 <|
  ltt (L48 ++ y185.1) fun L188 =>
  some ([], y185.2))) fun (y51 : NN × DD) =>
  app y51.1 <|
  ltt (L48 ++ y51.1) fun L53 =>
  chk (¬ (((1 : Int32)) < 0 ∨ (xt G L53).2.2 b4 ≤ ((1 : Int32)).toNatClampNeg)) <|
  ltt (y51.2.1 b4 ((1 : Int32)).toNatClampNeg) fun x55 =>
  bnd (if x55 = ((0 : Int32)) then (dr (xt G L53) 13 ((y51.2.2 a 1)) fun b169 =>
  chk (¬ (((20 : Int32)) < 0 ∨ (xt G L53).2.2 b169 ≤ ((20 : Int32)).toNatClampNeg)) <|
  ltt (y51.2.1 b169 ((20 : Int32)).toNatClampNeg) fun x170 =>
  bnd (if x170 = ((1 : Int32)) then (chk (okd (xt G L53) ((M.2 b3 0)) = true) <|
  bnd (FX0_writeWeights (xt G L53) y51.2 a) fun y177 =>
  app y177.1 <|
  ltt (L53 ++ y177.1) fun L180 =>
  some ([], y177.2)) else
  (some ([], y51.2))) fun (y171 : NN × DD) =>
  app y171.1 <|
  ltt (L53 ++ y171.1) fun L173 =>
  some ([], y171.2)) else
  (some ([], y51.2))) fun (y56 : NN × DD) =>
  app y56.1 <|
  ltt (L53 ++ y56.1) fun L58 =>
  chk (¬ (((11 : Int32)) < 0 ∨ (xt G L58).2.2 b4 ≤ ((11 : Int32)).toNatClampNeg)) <|
  ltt (y56.2.1 b4 ((11 : Int32)).toNatClampNeg) fun x60 =>
  bnd (if x60 = ((0 : Int32)) then (some ([], y56.2)) else
  (chk (okd (xt G L58) ((M.2 b3 0)) = true) <|
  bnd (FX0_flag (xt G L58) y56.2 a ((0 : Int32))) fun y161 =>
  app y161.1 <|
  ltt (L58 ++ y161.1) fun L164 =>
  some ([], y161.2))) fun (y61 : NN × DD) =>
  app y61.1 <|
  ltt (L58 ++ y61.1) fun L63 =>
  dr (xt G L63) 9 ((y61.2.2 a 3)) fun b65 =>
  dr (xt G L63) 3 ((y61.2.2 b65 1)) fun b66 =>
  bnd (FX3_isOwn (xt G L63) y61.2 b66) fun y67 =>
  bnd (if y67.2 = ((0 : Int32)) then (some ([], y67.1)) else
  (chk (okd (xt G L63) ((M.2 b3 0)) = true) <|
  bnd (FX0_flag (xt G L63) y67.1 a ((0 : Int32))) fun y153 =>
  app y153.1 <|
  ltt (L63 ++ y153.1) fun L156 =>
  some ([], y153.2))) fun (y68 : NN × DD) =>
  app y68.1 <|
  ltt (L63 ++ y68.1) fun L70 =>
  dr (xt G L70) 9 ((y68.2.2 a 3)) fun b72 =>
  dr (xt G L70) 13 ((y68.2.2 b72 2)) fun b73 =>
  chk (¬ (((1 : Int32)) < 0 ∨ (xt G L70).2.2 b73 ≤ ((1 : Int32)).toNatClampNeg)) <|
  ltt (y68.2.1 b73 ((1 : Int32)).toNatClampNeg) fun x74 =>
  bnd (if x74 = ((1 : Int32)) then (chk (¬ (((1 : Int32)) < 0 ∨ (xt G L70).2.2 b4 ≤ ((1 : Int32)).toNatClampNeg)) <|
  ltt (y68.2.1 b4 ((1 : Int32)).toNatClampNeg) fun x137 =>
  bnd (if x137 = ((2 : Int32)) then (some ([], y68.2)) else
  (dr (xt G L70) 10 ((y68.2.2 a 2)) fun b144 =>
  chk (okd (xt G L70) ((M.2 b3 0)) = true) <|
  bnd (FX10_ue (xt G L70) y68.2 b144 ((0 : Int32)) ((0 : Int32))) fun y145 =>
  app y145.1 <|
  ltt (L70 ++ y145.1) fun L148 =>
  some ([], y145.2))) fun (y138 : NN × DD) =>
  app y138.1 <|
  ltt (L70 ++ y138.1) fun L140 =>
  some ([], y138.2)) else
  (some ([], y68.2))) fun (y75 : NN × DD) =>
  app y75.1 <|
  ltt (L70 ++ y75.1) fun L77 =>
  chk (¬ (((12 : Int32)) < 0 ∨ (xt G L77).2.2 b4 ≤ ((12 : Int32)).toNatClampNeg)) <|
  ltt (y75.2.1 b4 ((12 : Int32)).toNatClampNeg) fun x79 =>
  dr (xt G L77) 13 ((y75.2.2 a 1)) fun b80 =>
  chk (¬ (((3 : Int32)) < 0 ∨ (xt G L77).2.2 b80 ≤ ((3 : Int32)).toNatClampNeg)) <|
  ltt (y75.2.1 b80 ((3 : Int32)).toNatClampNeg) fun x81 =>
  ltt ((x79 - x81)) fun x82 =>
  dr (xt G L77) 10 ((y75.2.2 a 2)) fun b83 =>
  chk (okd (xt G L77) ((M.2 b3 0)) = true) <|
  bnd (FX10_se (xt G L77) y75.2 b83 ((0 : Int32)) x82) fun y84 =>
  app y84.1 <|
  ltt (L77 ++ y84.1) fun L87 =>
  chk (¬ (((13 : Int32)) < 0 ∨ (xt G L87).2.2 b4 ≤ ((13 : Int32)).toNatClampNeg)) <|
  ltt (y84.2.1 b4 ((13 : Int32)).toNatClampNeg) fun x90 =>
  dr (xt G L87) 10 ((y84.2.2 a 2)) fun b91 =>
  chk (okd (xt G L87) ((M.2 b3 0)) = true) <|
  bnd (FX10_ue (xt G L87) y84.2 b91 ((0 : Int32)) x90) fun y92 =>
  app y92.1 <|
  ltt (L87 ++ y92.1) fun L95 =>
  chk (¬ (((13 : Int32)) < 0 ∨ (xt G L95).2.2 b4 ≤ ((13 : Int32)).toNatClampNeg)) <|
  ltt (y92.2.1 b4 ((13 : Int32)).toNatClampNeg) fun x98 =>
  bnd (if x98 = ((1 : Int32)) then (some ([], y92.2)) else
  (chk (¬ (((14 : Int32)) < 0 ∨ (xt G L95).2.2 b4 ≤ ((14 : Int32)).toNatClampNeg)) <|
  ltt (y92.2.1 b4 ((14 : Int32)).toNatClampNeg) fun x120 =>
  dr (xt G L95) 10 ((y92.2.2 a 2)) fun b121 =>
  chk (okd (xt G L95) ((M.2 b3 0)) = true) <|
  bnd (FX10_se (xt G L95) y92.2 b121 ((0 : Int32)) x120) fun y122 =>
  app y122.1 <|
  ltt (L95 ++ y122.1) fun L125 =>
  chk (¬ (((15 : Int32)) < 0 ∨ (xt G L125).2.2 b4 ≤ ((15 : Int32)).toNatClampNeg)) <|
  ltt (y122.2.1 b4 ((15 : Int32)).toNatClampNeg) fun x128 =>
  dr (xt G L125) 10 ((y122.2.2 a 2)) fun b129 =>
  bnd (FX10_se (xt G L125) y122.2 b129 ((0 : Int32)) x128) fun y130 =>
  app y130.1 <|
  ltt (L125 ++ y130.1) fun L132 =>
  some ([], y130.2))) fun (y99 : NN × DD) =>
  app y99.1 <|
  ltt (L95 ++ y99.1) fun L101 =>
  dr (xt G L101) 9 ((y99.2.2 a 3)) fun b103 =>
  dr (xt G L101) 13 ((y99.2.2 b103 2)) fun b104 =>
  chk (¬ (((1 : Int32)) < 0 ∨ (xt G L101).2.2 b104 ≤ ((1 : Int32)).toNatClampNeg)) <|
  ltt (y99.2.1 b104 ((1 : Int32)).toNatClampNeg) fun x105 =>
  bnd (if x105 = ((1 : Int32)) then (dr (xt G L101) 10 ((y99.2.2 a 2)) fun b112 =>
  bnd (FX10_beginData (xt G L101) y99.2 b112) fun y113 =>
  app y113.1 <|
  ltt (L101 ++ y113.1) fun L115 =>
  some ([], y113.2)) else
  (some ([], y99.2))) fun (y106 : NN × DD) =>
  app y106.1 <|
  ltt (L101 ++ y106.1) fun L108 =>
  some ([], y106.2)
set_option maxHeartbeats 4000000 in
set_option maxRecDepth 100000 in
theorem kX0_writeHeader (l : Launch) (D : va_G) (ct : CT) (ad : Nat → Nat) (Z : Nat → Nat) (G : GG) (M : DD) (sz : Nat) (a : Nat)  (y : NN × DD) (hc : a < G.1) (hk : G.2.1 a = 0) (hF : FX0_writeHeader G M a  = some y) : Met l yX0_writeHeader wuX0_writeHeader ({ frames := 7, cells := y.1.length, slots := wt y.1, locals := 220 }) (va_Pc [.ref (ad a)] (kB D ct ad Z G M sz)) (va_Qv (fun (u : Nat → Nat) => agr G.1 ad u) (fun u t => kE D ct u (xt G y.1) (wA ad G sz) y.2 t) (wA ad G sz)) y.1.length (wt y.1) (wA ad G sz) := by
  refine Met.ofW (cc := cX0_writeHeader) (maxL := 2) (ret := none) (by decide) rfl ?_
  intro p e s m args below meth c s₁ B hml hv
  obtain ⟨rfl, hsz, hP, hK, hD0, hZ, hN⟩ := hv
  have hx := B.exec
  have hb := B.bytes
  have hr := B.returns
  have hts := atoms_spec (ws := wuX0_writeHeader) B.pre
  have hown : s.vm.findClass RX0 = some m.cls := findClass_of_methodNamed B.named
  have hlocks := B.notSynchronized
  subst hsz
  have hD := wD_self (sz := s.heap.size) hD0
  have hA9 : ∀ q, s.heap.size ≤ q → wA ad G s.heap.size q := fun q h => Or.inr h
  generalize hAe : wA ad G s.heap.size = A at hD hA9 hZ ⊢
  have hS : va_S A s.heap s.heap [] := va_S.rf
  have hl := lv_entry ([.ref (ad a)]) (n := 2) (Nat.le_of_ble_eq_true rfl)
  rw [lg_entry_eq]
  generalize (lg_sl ([.ref (ad a)]) ++ List.replicate (2 - (lg_sl ([.ref (ad a)])).length) Slot.unset).toArray = ls at hl ⊢
  have hl : lv_has ls 2 [(0, .ref (ad a))] := hl
  unfold FX0_writeHeader at hF
  rw [← wld_0 ct ad G M] at hP hD
  have hk := xt_k0 hc hk
  have hc := xt_l0 hc
  have hag := agr_rf G.1 ad
  obtain ⟨w0, hw0⟩ : ∃ z, z = y := ⟨_, rfl⟩
  rw [← hw0] at hF
  have hT : y.1 = [] ++ w0.1 := by rw [hw0]; rfl
  have h2 : y.2 = w0.2 := by rw [hw0]
  have hbl : y.1.length ≤ y.1.length ∧ wt y.1 ≤ wt y.1 := ⟨Nat.le_refl _, Nat.le_refl _⟩
  refine lv_aload_n hx hb dX0_writeHeader_0 rfl (lv_at hl 0 rfl) ?_
  refine va_get (D := D) (ci := 0) (v := va_re ad (M.2 a 3)) (C := RX0) (T := TX0) (N := 21) hx hb hts (mus hf_X0) hown hK hP a (wld_o ct ad (xt G []) M hc hk (by decide)) rfl 3 (by decide) (hts (.fieldLink RX0 36 "VideoSuite$Coder" "work" "LVideoSuite$Work;") (mu mw_817)) (fun _ h9 => h9) rfl dX0_writeHeader_1 ?_
  obtain ⟨b2, ho2, hc2, hk2, hF⟩ := dr_some hF
  refine W_st (st' := [.ref (ad b2)]) (by rw [va_some ho2]) ?_
  refine va_get (D := D) (ci := 9) (v := va_re ad (M.2 b2 1)) (C := RX9) (T := TX9) (N := 20) hx hb hts (mus hf_X9) hown hK hP b2 (wld_o ct ad (xt G []) M hc2 hk2 (by decide)) rfl 1 (by decide) (hts (.fieldLink RX0 81 "VideoSuite$Work" "head" "LVideoSuite$Header;") (mu mw_425)) (fun _ h9 => h9) rfl dX0_writeHeader_4 ?_
  obtain ⟨b3, ho3, hc3, hk3, hF⟩ := dr_some hF
  refine W_st (st' := [.ref (ad b3)]) (by rw [va_some ho3]) ?_
  refine va_get (D := D) (ci := 3) (v := va_re ad (M.2 b3 0)) (C := RX3) (T := TX3) (N := 4) hx hb hts (mus hf_X3) hown hK hP b3 (wld_o ct ad (xt G []) M hc3 hk3 (by decide)) rfl 0 (by decide) (hts (.fieldLink RX0 252 "VideoSuite$Header" "v" "[I") (mu mw_620)) (fun _ h9 => h9) rfl dX0_writeHeader_7 ?_
  refine lv_astoreq_n (lv' := [(1, va_re ad (M.2 b3 0)), (0, .ref (ad a))]) hx hb dX0_writeHeader_10 rfl hl (by decide) rfl (fun ls hl => ?_)
  refine lv_aload_n hx hb dX0_writeHeader_11 rfl (lv_at hl 1 rfl) ?_
  refine va_get (D := D) (ci := 0) (v := va_re ad (M.2 a 2)) (C := RX0) (T := TX0) (N := 21) hx hb hts (mus hf_X0) hown hK hP a (wld_o ct ad (xt G []) M hc hk (by decide)) rfl 2 (by decide) (hts (.fieldLink RX0 29 "VideoSuite$Coder" "writer" "LVideoSuite$Writer;") (mu mw_815)) (fun _ h9 => h9) rfl dX0_writeHeader_12 ?_
  refine lv_iconst (v := (0 : Int32)) hx hb dX0_writeHeader_15 (by decide) ?_
  refine lv_aloadq_n hx hb dX0_writeHeader_16 rfl (lv_at hl 0 rfl) ?_
  refine lv_iconst (v := (0 : Int32)) hx hb dX0_writeHeader_17 (by decide) ?_
  obtain ⟨b4, ho4, hc4, hk4, hF⟩ := dr_some hF
  refine W_st (st' := [.int (0 : Int32), .ref (ad b4), .int (0 : Int32), va_re ad (M.2 a 2)]) (by rw [va_some ho4]) ?_
  obtain ⟨hvc, hF⟩ := chk_some hF
  refine va_iald hx hb hK hP b4 1 (wld_i ct ad (xt G []) M hc4 hk4) rfl hvc dX0_writeHeader_18 ?_
  obtain ⟨x5, ex5, hF⟩ := ltt_some hF
  refine lv_topi (fun zx5 ezx5 => ?_)
  obtain rfl : x5 = zx5 := ex5.trans ezx5.symm
  obtain ⟨b6, ho6, hc6, hk6, hF⟩ := dr_some hF
  refine W_st (st' := [.int x5, .int (0 : Int32), .ref (ad b6)]) (by rw [va_some ho6]) ?_
  obtain ⟨hq8, hF⟩ := chk_some hF
  obtain ⟨y7, hy7, hF⟩ := bnd_some hF
  obtain ⟨w9, hF, ew9⟩ := app_some hF
  obtain ⟨L10, eL10, hF⟩ := ltt_some hF
  have hT10 : y.1 = ([] ++ y7.1) ++ w9.1 := by rw [hT, ew9]; simp only [List.append_assoc]
  have hf9 := wA_in hD hA9 hS
  refine va_callv (va_runV (As := [.int (0 : Int32), .int x5]) (rest := []) ⟨hx, hb, hml, hown, hts⟩ (kX10_ue l D ct ad Z (xt G []) M _ b6 ((0 : Int32)) x5 y7 hc6 hk6 hy7) (cwV 2 hts gX0_writeHeader_X10_ue rfl rfl rfl (by decide +kernel) ⟨Nat.le_of_ble_eq_true rfl, Nat.le_of_ble_eq_true rfl⟩) ⟨fun a U g mk q => by obtain ⟨q0, q1, qP, qK, qD, qZ, qN⟩ := q; exact ⟨q0, q1, qP, va_K.moved (u := U) (U := U.calling g mk a) (Vm.Alike.refl U.vm) qK, qD, sF.moved (u := U) (U := U.calling g mk a) (Vm.Alike.refl U.vm) qZ, nF.same rfl qN⟩, va_recv hK hP (ci := 10) (q0 := b6) rfl (wld_o ct ad (xt G []) M hc6 hk6 (by decide)), fun U hU hW => ⟨rfl, by rw [hU], by rw [hU]; exact hP, va_K.moved hW.alike hK, hD.weaken (fun _ _ _ _ => trivial), by rw [hU]; exact ((hZ.kept hS.2.1).narrow hf9).moved hW.alike, hN.warm hW⟩⟩ rfl rfl hl.1 rfl (lv_room (Nat.le_of_ble_eq_true rfl)) dX0_writeHeader_19 (room_s hT10 hbl)) hS (fun q _ h => hf9 q h) hf9 (fun ad11 t H locs ht hvm hw hB hz1 hk1 hS => ?_)
  have hn12 := hw
  obtain ⟨hP, hK9, hD9⟩ := hB
  rw [ht] at hP
  have hD := hD9.weaken (fun _ q _ h => hf9 q.1 h)
  rw [xt_xt, ← eL10] at hP hD
  refine W_cs (k := L10.length) (n := wt L10) (by rw [eL10]; exact (len_s [] y7.1).symm) (by rw [eL10]; exact (wt_app [] y7.1).symm) ?_
  have hT : y.1 = L10 ++ w9.1 := by rw [hT10, eL10]
  have h2 : y.2 = w9.2 := by rw [h2, ew9]
  have hl := lv_sub (l' := [(1, va_re ad (M.2 b3 0)), (0, .ref (ad a))]) hl [0, 1] rfl
  have e9 : ([(1, va_re ad (M.2 b3 0)), (0, .ref (ad a))] : List (Nat × Value)) = [(1, va_re ad11 (M.2 b3 0)), (0, .ref (ad11 a))] := (by first | rfl | simp only [agr_re hn12 hq8, hn12 a hc])
  rw [e9] at hl
  clear e9
  have hk : (xt G L10).2.1 a = 0 := by rw [eL10]; exact xt_k _ hc hk
  have hc : a < (xt G L10).1 := by rw [eL10]; exact xt_l _ hc
  have hk2 : (xt G L10).2.1 b2 = 9 := by rw [eL10]; exact xt_k _ hc2 hk2
  have hc2 : b2 < (xt G L10).1 := by rw [eL10]; exact xt_l _ hc2
  have hk3 : (xt G L10).2.1 b3 = 3 := by rw [eL10]; exact xt_k _ hc3 hk3
  have hc3 : b3 < (xt G L10).1 := by rw [eL10]; exact xt_l _ hc3
  have hk4 : (xt G L10).2.1 b4 = 13 := by rw [eL10]; exact xt_k _ hc4 hk4
  have hc4 : b4 < (xt G L10).1 := by rw [eL10]; exact xt_l _ hc4
  have hk6 : (xt G L10).2.1 b6 = 10 := by rw [eL10]; exact xt_k _ hc6 hk6
  have hc6 : b6 < (xt G L10).1 := by rw [eL10]; exact xt_l _ hc6
  have hag := agr_t (xt_ge _ _) hag hn12
  refine lv_aload_n hx hb dX0_writeHeader_22 rfl (lv_at hl 1 rfl) ?_
  refine va_get (D := D) (ci := 0) (v := va_re ad11 (y7.2.2 a 2)) (C := RX0) (T := TX0) (N := 21) hx hb hts (mus hf_X0) hown hK hP a (wld_o ct ad11 (xt G L10) y7.2 hc hk (by decide)) rfl 2 (by decide) (hts (.fieldLink RX0 29 "VideoSuite$Coder" "writer" "LVideoSuite$Writer;") (mu mw_815)) (fun _ h9 => h9) rfl dX0_writeHeader_23 ?_
  refine lv_iconst (v := (0 : Int32)) hx hb dX0_writeHeader_26 (by decide) ?_
  refine lv_aloadq_n hx hb dX0_writeHeader_27 rfl (lv_at hl 0 rfl) ?_
  refine lv_iconst (v := (1 : Int32)) hx hb dX0_writeHeader_28 (by decide) ?_
  refine W_st (st' := [.int (1 : Int32), .ref (ad11 b4), .int (0 : Int32), va_re ad11 (y7.2.2 a 2)]) (by rw [va_some ho4]) ?_
  obtain ⟨hvc, hF⟩ := chk_some hF
  refine va_iald hx hb hK hP b4 1 (wld_i ct ad11 (xt G L10) y7.2 hc4 hk4) rfl hvc dX0_writeHeader_29 ?_
  obtain ⟨x13, ex13, hF⟩ := ltt_some hF
  refine lv_topi (fun zx13 ezx13 => ?_)
  obtain rfl : x13 = zx13 := ex13.trans ezx13.symm
  obtain ⟨b14, ho14, hc14, hk14, hF⟩ := dr_some hF
  refine W_st (st' := [.int x13, .int (0 : Int32), .ref (ad11 b14)]) (by rw [va_some ho14]) ?_
  obtain ⟨hq16, hF⟩ := chk_some hF
  obtain ⟨y15, hy15, hF⟩ := bnd_some hF
  obtain ⟨w17, hF, ew17⟩ := app_some hF
  obtain ⟨L18, eL18, hF⟩ := ltt_some hF
  have hT18 : y.1 = (L10 ++ y15.1) ++ w17.1 := by rw [hT, ew17]; simp only [List.append_assoc]
  have hf9 := wA_in hD hA9 hS
  refine va_callv (va_runV (As := [.int (0 : Int32), .int x13]) (rest := []) ⟨hx, hb, hml, hown, hts⟩ (kX10_ue l D ct ad11 Z (xt G L10) y7.2 _ b14 ((0 : Int32)) x13 y15 hc14 hk14 hy15) (cwV 2 hts gX0_writeHeader_X10_ue rfl rfl rfl (by decide +kernel) ⟨Nat.le_of_ble_eq_true rfl, Nat.le_of_ble_eq_true rfl⟩) ⟨fun a U g mk q => by obtain ⟨q0, q1, qP, qK, qD, qZ, qN⟩ := q; exact ⟨q0, q1, qP, va_K.moved (u := U) (U := U.calling g mk a) (Vm.Alike.refl U.vm) qK, qD, sF.moved (u := U) (U := U.calling g mk a) (Vm.Alike.refl U.vm) qZ, nF.same rfl qN⟩, va_recv hK hP (ci := 10) (q0 := b14) rfl (wld_o ct ad11 (xt G L10) y7.2 hc14 hk14 (by decide)), fun U hU hW => ⟨rfl, by rw [hU], by rw [hU]; exact hP, va_K.moved hW.alike hK, hD.weaken (fun _ _ _ _ => trivial), by rw [hU]; exact ((hZ.kept hS.2.1).narrow hf9).moved hW.alike, hN.warm hW⟩⟩ rfl rfl hl.1 rfl (lv_room (Nat.le_of_ble_eq_true rfl)) dX0_writeHeader_30 (room_s hT18 hbl)) hS (fun q _ h => hf9 q h) hf9 (fun ad19 t H locs ht hvm hw hB hz1 hk1 hS => ?_)
  have hn20 := hw
  obtain ⟨hP, hK9, hD9⟩ := hB
  rw [ht] at hP
  have hD := hD9.weaken (fun _ q _ h => hf9 q.1 h)
  rw [xt_xt, ← eL18] at hP hD
  refine W_cs (k := L18.length) (n := wt L18) (by rw [eL18]; exact (len_s L10 y15.1).symm) (by rw [eL18]; exact (wt_app L10 y15.1).symm) ?_
  have hT : y.1 = L18 ++ w17.1 := by rw [hT18, eL18]
  have h2 : y.2 = w17.2 := by rw [h2, ew17]
  have hl := lv_sub (l' := [(1, va_re ad11 (M.2 b3 0)), (0, .ref (ad11 a))]) hl [0, 1] rfl
  have e9 : ([(1, va_re ad11 (M.2 b3 0)), (0, .ref (ad11 a))] : List (Nat × Value)) = [(1, va_re ad19 (M.2 b3 0)), (0, .ref (ad19 a))] := (by first | rfl | simp only [agr_re hn20 hq16, hn20 a hc])
  rw [e9] at hl
  clear e9
  have hk : (xt G L18).2.1 a = 0 := by rw [eL18]; exact xt_k _ hc hk
  have hc : a < (xt G L18).1 := by rw [eL18]; exact xt_l _ hc
  have hk2 : (xt G L18).2.1 b2 = 9 := by rw [eL18]; exact xt_k _ hc2 hk2
  have hc2 : b2 < (xt G L18).1 := by rw [eL18]; exact xt_l _ hc2
  have hk3 : (xt G L18).2.1 b3 = 3 := by rw [eL18]; exact xt_k _ hc3 hk3
  have hc3 : b3 < (xt G L18).1 := by rw [eL18]; exact xt_l _ hc3
  have hk4 : (xt G L18).2.1 b4 = 13 := by rw [eL18]; exact xt_k _ hc4 hk4
  have hc4 : b4 < (xt G L18).1 := by rw [eL18]; exact xt_l _ hc4
  have hk6 : (xt G L18).2.1 b6 = 10 := by rw [eL18]; exact xt_k _ hc6 hk6
  have hc6 : b6 < (xt G L18).1 := by rw [eL18]; exact xt_l _ hc6
  have hk14 : (xt G L18).2.1 b14 = 10 := by rw [eL18]; exact xt_k _ hc14 hk14
  have hc14 : b14 < (xt G L18).1 := by rw [eL18]; exact xt_l _ hc14
  have hag := agr_t (xt_ge _ _) hag hn20
  refine lv_aload_n hx hb dX0_writeHeader_33 rfl (lv_at hl 1 rfl) ?_
  refine va_get (D := D) (ci := 0) (v := va_re ad19 (y15.2.2 a 2)) (C := RX0) (T := TX0) (N := 21) hx hb hts (mus hf_X0) hown hK hP a (wld_o ct ad19 (xt G L18) y15.2 hc hk (by decide)) rfl 2 (by decide) (hts (.fieldLink RX0 29 "VideoSuite$Coder" "writer" "LVideoSuite$Writer;") (mu mw_815)) (fun _ h9 => h9) rfl dX0_writeHeader_34 ?_
  refine lv_iconst (v := (0 : Int32)) hx hb dX0_writeHeader_37 (by decide) ?_
  refine lv_iconst (v := (0 : Int32)) hx hb dX0_writeHeader_38 (by decide) ?_
  obtain ⟨b21, ho21, hc21, hk21, hF⟩ := dr_some hF
  refine W_st (st' := [.int (0 : Int32), .int (0 : Int32), .ref (ad19 b21)]) (by rw [va_some ho21]) ?_
  obtain ⟨hq23, hF⟩ := chk_some hF
  obtain ⟨y22, hy22, hF⟩ := bnd_some hF
  obtain ⟨w24, hF, ew24⟩ := app_some hF
  obtain ⟨L25, eL25, hF⟩ := ltt_some hF
  have hT25 : y.1 = (L18 ++ y22.1) ++ w24.1 := by rw [hT, ew24]; simp only [List.append_assoc]
  have hf9 := wA_in hD hA9 hS
  refine va_callv (va_runV (As := [.int (0 : Int32), .int (0 : Int32)]) (rest := []) ⟨hx, hb, hml, hown, hts⟩ (kX10_ue l D ct ad19 Z (xt G L18) y15.2 _ b21 ((0 : Int32)) ((0 : Int32)) y22 hc21 hk21 hy22) (cwV 2 hts gX0_writeHeader_X10_ue rfl rfl rfl (by decide +kernel) ⟨Nat.le_of_ble_eq_true rfl, Nat.le_of_ble_eq_true rfl⟩) ⟨fun a U g mk q => by obtain ⟨q0, q1, qP, qK, qD, qZ, qN⟩ := q; exact ⟨q0, q1, qP, va_K.moved (u := U) (U := U.calling g mk a) (Vm.Alike.refl U.vm) qK, qD, sF.moved (u := U) (U := U.calling g mk a) (Vm.Alike.refl U.vm) qZ, nF.same rfl qN⟩, va_recv hK hP (ci := 10) (q0 := b21) rfl (wld_o ct ad19 (xt G L18) y15.2 hc21 hk21 (by decide)), fun U hU hW => ⟨rfl, by rw [hU], by rw [hU]; exact hP, va_K.moved hW.alike hK, hD.weaken (fun _ _ _ _ => trivial), by rw [hU]; exact ((hZ.kept hS.2.1).narrow hf9).moved hW.alike, hN.warm hW⟩⟩ rfl rfl hl.1 rfl (lv_room (Nat.le_of_ble_eq_true rfl)) dX0_writeHeader_39 (room_s hT25 hbl)) hS (fun q _ h => hf9 q h) hf9 (fun ad26 t H locs ht hvm hw hB hz1 hk1 hS => ?_)
  have hn27 := hw
  obtain ⟨hP, hK9, hD9⟩ := hB
  rw [ht] at hP
  have hD := hD9.weaken (fun _ q _ h => hf9 q.1 h)
  rw [xt_xt, ← eL25] at hP hD
  refine W_cs (k := L25.length) (n := wt L25) (by rw [eL25]; exact (len_s L18 y22.1).symm) (by rw [eL25]; exact (wt_app L18 y22.1).symm) ?_
  have hT : y.1 = L25 ++ w24.1 := by rw [hT25, eL25]
  have h2 : y.2 = w24.2 := by rw [h2, ew24]
  have hl := lv_sub (l' := [(1, va_re ad19 (M.2 b3 0)), (0, .ref (ad19 a))]) hl [0, 1] rfl
  have e9 : ([(1, va_re ad19 (M.2 b3 0)), (0, .ref (ad19 a))] : List (Nat × Value)) = [(1, va_re ad26 (M.2 b3 0)), (0, .ref (ad26 a))] := (by first | rfl | simp only [agr_re hn27 hq23, hn27 a hc])
  rw [e9] at hl
  clear e9
  have hk : (xt G L25).2.1 a = 0 := by rw [eL25]; exact xt_k _ hc hk
  have hc : a < (xt G L25).1 := by rw [eL25]; exact xt_l _ hc
  have hk2 : (xt G L25).2.1 b2 = 9 := by rw [eL25]; exact xt_k _ hc2 hk2
  have hc2 : b2 < (xt G L25).1 := by rw [eL25]; exact xt_l _ hc2
  have hk3 : (xt G L25).2.1 b3 = 3 := by rw [eL25]; exact xt_k _ hc3 hk3
  have hc3 : b3 < (xt G L25).1 := by rw [eL25]; exact xt_l _ hc3
  have hk4 : (xt G L25).2.1 b4 = 13 := by rw [eL25]; exact xt_k _ hc4 hk4
  have hc4 : b4 < (xt G L25).1 := by rw [eL25]; exact xt_l _ hc4
  have hk6 : (xt G L25).2.1 b6 = 10 := by rw [eL25]; exact xt_k _ hc6 hk6
  have hc6 : b6 < (xt G L25).1 := by rw [eL25]; exact xt_l _ hc6
  have hk14 : (xt G L25).2.1 b14 = 10 := by rw [eL25]; exact xt_k _ hc14 hk14
  have hc14 : b14 < (xt G L25).1 := by rw [eL25]; exact xt_l _ hc14
  have hk21 : (xt G L25).2.1 b21 = 10 := by rw [eL25]; exact xt_k _ hc21 hk21
  have hc21 : b21 < (xt G L25).1 := by rw [eL25]; exact xt_l _ hc21
  have hag := agr_t (xt_ge _ _) hag hn27
  refine lv_aload_n hx hb dX0_writeHeader_42 rfl (lv_at hl 1 rfl) ?_
  refine va_get (D := D) (ci := 0) (v := va_re ad26 (y22.2.2 a 2)) (C := RX0) (T := TX0) (N := 21) hx hb hts (mus hf_X0) hown hK hP a (wld_o ct ad26 (xt G L25) y22.2 hc hk (by decide)) rfl 2 (by decide) (hts (.fieldLink RX0 29 "VideoSuite$Coder" "writer" "LVideoSuite$Writer;") (mu mw_815)) (fun _ h9 => h9) rfl dX0_writeHeader_43 ?_
  refine lv_iconst (v := (0 : Int32)) hx hb dX0_writeHeader_46 (by decide) ?_
  refine lv_aloadq_n hx hb dX0_writeHeader_47 rfl (lv_at hl 0 rfl) ?_
  refine lv_iconst (v := (3 : Int32)) hx hb dX0_writeHeader_48 (by decide) ?_
  refine W_st (st' := [.int (3 : Int32), .ref (ad26 b4), .int (0 : Int32), va_re ad26 (y22.2.2 a 2)]) (by rw [va_some ho4]) ?_
  obtain ⟨hvc, hF⟩ := chk_some hF
  refine va_iald hx hb hK hP b4 1 (wld_i ct ad26 (xt G L25) y22.2 hc4 hk4) rfl hvc dX0_writeHeader_49 ?_
  obtain ⟨x28, ex28, hF⟩ := ltt_some hF
  refine lv_topi (fun zx28 ezx28 => ?_)
  obtain rfl : x28 = zx28 := ex28.trans ezx28.symm
  refine lv_i2l (v := x28.toInt64) hx hb dX0_writeHeader_50 rfl ?_
  obtain ⟨x29, ex29, hF⟩ := ltt_some hF
  refine lv_topl (fun zx29 ezx29 => ?_)
  obtain rfl : x29 = zx29 := ex29.trans ezx29.symm
  refine lv_bipush (v := (8 : Int32)) hx hb dX0_writeHeader_51 (by decide) ?_
  obtain ⟨b30, ho30, hc30, hk30, hF⟩ := dr_some hF
  refine W_st (st' := [.int (8 : Int32), .long x29, .int (0 : Int32), .ref (ad26 b30)]) (by rw [va_some ho30]) ?_
  obtain ⟨hq32, hF⟩ := chk_some hF
  obtain ⟨y31, hy31, hF⟩ := bnd_some hF
  obtain ⟨w33, hF, ew33⟩ := app_some hF
  obtain ⟨L34, eL34, hF⟩ := ltt_some hF
  have hT34 : y.1 = (L25 ++ y31.1) ++ w33.1 := by rw [hT, ew33]; simp only [List.append_assoc]
  have hf9 := wA_in hD hA9 hS
  refine va_callv (va_runV (As := [.int (0 : Int32), .long x29, .int (8 : Int32)]) (rest := []) ⟨hx, hb, hml, hown, hts⟩ (kX10_code l D ct ad26 Z (xt G L25) y22.2 _ b30 ((0 : Int32)) x29 ((8 : Int32)) y31 hc30 hk30 hy31) (cwV 3 hts gX0_writeHeader_X10_code rfl rfl rfl (by decide +kernel) ⟨Nat.le_of_ble_eq_true rfl, Nat.le_of_ble_eq_true rfl⟩) ⟨fun a U g mk q => by obtain ⟨q0, q1, qP, qK, qD, qZ, qN⟩ := q; exact ⟨q0, q1, qP, va_K.moved (u := U) (U := U.calling g mk a) (Vm.Alike.refl U.vm) qK, qD, sF.moved (u := U) (U := U.calling g mk a) (Vm.Alike.refl U.vm) qZ, nF.same rfl qN⟩, va_recv hK hP (ci := 10) (q0 := b30) rfl (wld_o ct ad26 (xt G L25) y22.2 hc30 hk30 (by decide)), fun U hU hW => ⟨rfl, by rw [hU], by rw [hU]; exact hP, va_K.moved hW.alike hK, hD.weaken (fun _ _ _ _ => trivial), by rw [hU]; exact ((hZ.kept hS.2.1).narrow hf9).moved hW.alike, hN.warm hW⟩⟩ rfl rfl hl.1 rfl (lv_room (Nat.le_of_ble_eq_true rfl)) dX0_writeHeader_53 (room_s hT34 hbl)) hS (fun q _ h => hf9 q h) hf9 (fun ad35 t H locs ht hvm hw hB hz1 hk1 hS => ?_)
  have hn36 := hw
  obtain ⟨hP, hK9, hD9⟩ := hB
  rw [ht] at hP
  have hD := hD9.weaken (fun _ q _ h => hf9 q.1 h)
  rw [xt_xt, ← eL34] at hP hD
  refine W_cs (k := L34.length) (n := wt L34) (by rw [eL34]; exact (len_s L25 y31.1).symm) (by rw [eL34]; exact (wt_app L25 y31.1).symm) ?_
  have hT : y.1 = L34 ++ w33.1 := by rw [hT34, eL34]
  have h2 : y.2 = w33.2 := by rw [h2, ew33]
  have hl := lv_sub (l' := [(1, va_re ad26 (M.2 b3 0)), (0, .ref (ad26 a))]) hl [0, 1] rfl
  have e9 : ([(1, va_re ad26 (M.2 b3 0)), (0, .ref (ad26 a))] : List (Nat × Value)) = [(1, va_re ad35 (M.2 b3 0)), (0, .ref (ad35 a))] := (by first | rfl | simp only [agr_re hn36 hq32, hn36 a hc])
  rw [e9] at hl
  clear e9
  have hk : (xt G L34).2.1 a = 0 := by rw [eL34]; exact xt_k _ hc hk
  have hc : a < (xt G L34).1 := by rw [eL34]; exact xt_l _ hc
  have hk2 : (xt G L34).2.1 b2 = 9 := by rw [eL34]; exact xt_k _ hc2 hk2
  have hc2 : b2 < (xt G L34).1 := by rw [eL34]; exact xt_l _ hc2
  have hk3 : (xt G L34).2.1 b3 = 3 := by rw [eL34]; exact xt_k _ hc3 hk3
  have hc3 : b3 < (xt G L34).1 := by rw [eL34]; exact xt_l _ hc3
  have hk4 : (xt G L34).2.1 b4 = 13 := by rw [eL34]; exact xt_k _ hc4 hk4
  have hc4 : b4 < (xt G L34).1 := by rw [eL34]; exact xt_l _ hc4
  have hk6 : (xt G L34).2.1 b6 = 10 := by rw [eL34]; exact xt_k _ hc6 hk6
  have hc6 : b6 < (xt G L34).1 := by rw [eL34]; exact xt_l _ hc6
  have hk14 : (xt G L34).2.1 b14 = 10 := by rw [eL34]; exact xt_k _ hc14 hk14
  have hc14 : b14 < (xt G L34).1 := by rw [eL34]; exact xt_l _ hc14
  have hk21 : (xt G L34).2.1 b21 = 10 := by rw [eL34]; exact xt_k _ hc21 hk21
  have hc21 : b21 < (xt G L34).1 := by rw [eL34]; exact xt_l _ hc21
  have hk30 : (xt G L34).2.1 b30 = 10 := by rw [eL34]; exact xt_k _ hc30 hk30
  have hc30 : b30 < (xt G L34).1 := by rw [eL34]; exact xt_l _ hc30
  have hag := agr_t (xt_ge _ _) hag hn36
  refine lv_aload_n hx hb dX0_writeHeader_56 rfl (lv_at hl 1 rfl) ?_
  refine va_get (D := D) (ci := 0) (v := va_re ad35 (y31.2.2 a 3)) (C := RX0) (T := TX0) (N := 21) hx hb hts (mus hf_X0) hown hK hP a (wld_o ct ad35 (xt G L34) y31.2 hc hk (by decide)) rfl 3 (by decide) (hts (.fieldLink RX0 36 "VideoSuite$Coder" "work" "LVideoSuite$Work;") (mu mw_817)) (fun _ h9 => h9) rfl dX0_writeHeader_57 ?_
  obtain ⟨b37, ho37, hc37, hk37, hF⟩ := dr_some hF
  refine W_st (st' := [.ref (ad35 b37)]) (by rw [va_some ho37]) ?_
  refine va_get (D := D) (ci := 9) (v := va_re ad35 (y31.2.2 b37 1)) (C := RX9) (T := TX9) (N := 20) hx hb hts (mus hf_X9) hown hK hP b37 (wld_o ct ad35 (xt G L34) y31.2 hc37 hk37 (by decide)) rfl 1 (by decide) (hts (.fieldLink RX0 81 "VideoSuite$Work" "head" "LVideoSuite$Header;") (mu mw_425)) (fun _ h9 => h9) rfl dX0_writeHeader_60 ?_
  obtain ⟨b38, ho38, hc38, hk38, hF⟩ := dr_some hF
  refine W_st (st' := [.ref (ad35 b38)]) (by rw [va_some ho38]) ?_
  obtain ⟨y39, hy39, hF⟩ := bnd_some hF
  have hf9 := wA_in hD hA9 hS
  refine va_calli (va_runV (As := []) (rest := []) ⟨hx, hb, hml, hown, hts⟩ (kX3_isOwn l D ct ad35 Z (xt G L34) y31.2 H.size b38 y39 hc38 hk38 hy39) (cwV 0 hts gX0_writeHeader_X3_isOwn rfl rfl rfl (by decide +kernel) ⟨Nat.le_of_ble_eq_true rfl, Nat.le_of_ble_eq_true rfl⟩) ⟨fun a U g mk q => by obtain ⟨q0, q1, qP, qK, qD, qZ, qN⟩ := q; exact ⟨q0, q1, qP, va_K.moved (u := U) (U := U.calling g mk a) (Vm.Alike.refl U.vm) qK, qD, sF.moved (u := U) (U := U.calling g mk a) (Vm.Alike.refl U.vm) qZ, nF.same rfl qN⟩, va_recv hK hP (ci := 3) (q0 := b38) rfl (wld_o ct ad35 (xt G L34) y31.2 hc38 hk38 (by decide)), fun U hU hW => ⟨rfl, by rw [hU], by rw [hU]; exact hP, va_K.moved hW.alike hK, hD.weaken (fun _ _ _ _ => trivial), by rw [hU]; exact ((hZ.kept hS.2.1).narrow hf9).moved hW.alike, hN.warm hW⟩⟩ rfl rfl hl.1 rfl (lv_room (Nat.le_of_ble_eq_true rfl)) dX0_writeHeader_63 (room_d hT hbl)) hS (fun q _ h => hf9 q h) hf9 (fun r u t H locs ht hvm hw hB hz1 hk1 hS => ?_)
  obtain ⟨hP, hK9, hD9⟩ := hB
  rw [ht] at hP
  try dsimp only at hw
  subst hw
  refine W_cs (k := (L34 : NN).length) (n := wt L34) rfl rfl ?_
  have hD := hD9.weaken (fun _ q _ h => hf9 q.1 h)
  obtain ⟨y40, hy40, hF⟩ := bnd_some hF
  obtain ⟨w41, hF, ew41⟩ := app_some hF
  obtain ⟨L42, eL42, hF⟩ := ltt_some hF
  have hT42 : y.1 = (L34 ++ y40.1) ++ w41.1 := by rw [hT, ew41]; simp only [List.append_assoc]
  have hbl42 : L42.length ≤ y.1.length ∧ wt L42 ≤ wt y.1 := by rw [eL42]; exact room_d hT42 hbl
  have J40 : ∀ (ad43 : Nat → Nat), agr G.1 ad ad43 → ∀ (H : Heap) (locs : List Loc) (ls : Array Slot), va_P D classes (wld ct ad43 (xt G L42) y40.2) H → va_D A (wld ct ad43 (xt G L42) y40.2) → va_S A s.heap H locs → lv_has ls 2 [(1, va_re ad43 (M.2 b3 0)), (0, .ref (ad43 a))] → W p l e (headSpec wuX0_writeHeader ({ frames := 7, cells := y.1.length, slots := wt y.1, locals := 220 })).room s m ([.ref (ad a)] : List Value).toArray below meth c H locs (L42 : NN).length (wt L42) (MQ below (va_Qv (fun (u : Nat → Nat) => agr G.1 ad u) (fun u t => kE D ct u (xt G y.1) A y.2 t) A) ([.ref (ad a)] : List Value).toArray s y.1.length (wt y.1) A) (F0 m 80 ls []) := by
    intro ad43 hag H locs ls hP hD hS hl
    have hT : y.1 = L42 ++ w41.1 := by rw [hT42, eL42]
    have h2 : y.2 = w41.2 := by rw [h2, ew41]
    have hk : (xt G L42).2.1 a = 0 := by rw [eL42]; exact xt_k _ hc hk
    have hc : a < (xt G L42).1 := by rw [eL42]; exact xt_l _ hc
    have hk2 : (xt G L42).2.1 b2 = 9 := by rw [eL42]; exact xt_k _ hc2 hk2
    have hc2 : b2 < (xt G L42).1 := by rw [eL42]; exact xt_l _ hc2
    have hk3 : (xt G L42).2.1 b3 = 3 := by rw [eL42]; exact xt_k _ hc3 hk3
    have hc3 : b3 < (xt G L42).1 := by rw [eL42]; exact xt_l _ hc3
    have hk4 : (xt G L42).2.1 b4 = 13 := by rw [eL42]; exact xt_k _ hc4 hk4
    have hc4 : b4 < (xt G L42).1 := by rw [eL42]; exact xt_l _ hc4
    have hk6 : (xt G L42).2.1 b6 = 10 := by rw [eL42]; exact xt_k _ hc6 hk6
    have hc6 : b6 < (xt G L42).1 := by rw [eL42]; exact xt_l _ hc6
    have hk14 : (xt G L42).2.1 b14 = 10 := by rw [eL42]; exact xt_k _ hc14 hk14
    have hc14 : b14 < (xt G L42).1 := by rw [eL42]; exact xt_l _ hc14
    have hk21 : (xt G L42).2.1 b21 = 10 := by rw [eL42]; exact xt_k _ hc21 hk21
    have hc21 : b21 < (xt G L42).1 := by rw [eL42]; exact xt_l _ hc21
    have hk30 : (xt G L42).2.1 b30 = 10 := by rw [eL42]; exact xt_k _ hc30 hk30
    have hc30 : b30 < (xt G L42).1 := by rw [eL42]; exact xt_l _ hc30
    have hk37 : (xt G L42).2.1 b37 = 9 := by rw [eL42]; exact xt_k _ hc37 hk37
    have hc37 : b37 < (xt G L42).1 := by rw [eL42]; exact xt_l _ hc37
    have hk38 : (xt G L42).2.1 b38 = 3 := by rw [eL42]; exact xt_k _ hc38 hk38
    have hc38 : b38 < (xt G L42).1 := by rw [eL42]; exact xt_l _ hc38
    refine lv_aload_n hx hb dX0_writeHeader_80 rfl (lv_at hl 1 rfl) ?_
    refine va_get (D := D) (ci := 0) (v := va_re ad43 (y40.2.2 a 1)) (C := RX0) (T := TX0) (N := 21) hx hb hts (mus hf_X0) hown hK hP a (wld_o ct ad43 (xt G L42) y40.2 hc hk (by decide)) rfl 1 (by decide) (hts (.fieldLink RX0 23 "VideoSuite$Coder" "now" "[I") (mu mw_813)) (fun _ h9 => h9) rfl dX0_writeHeader_81 ?_
    refine lv_bipush (v := (18 : Int32)) hx hb dX0_writeHeader_84 (by decide) ?_
    obtain ⟨b44, ho44, hc44, hk44, hF⟩ := dr_some hF
    refine W_st (st' := [.int (18 : Int32), .ref (ad43 b44)]) (by rw [va_some ho44]) ?_
    obtain ⟨hvc, hF⟩ := chk_some hF
    refine va_iald hx hb hK hP b44 1 (wld_i ct ad43 (xt G L42) y40.2 hc44 hk44) rfl hvc dX0_writeHeader_86 ?_
    obtain ⟨x45, ex45, hF⟩ := ltt_some hF
    refine lv_topi (fun zx45 ezx45 => ?_)
    obtain rfl : x45 = zx45 := ex45.trans ezx45.symm
    obtain ⟨y46, hy46, hF⟩ := bnd_some hF
    obtain ⟨w47, hF, ew47⟩ := app_some hF
    obtain ⟨L48, eL48, hF⟩ := ltt_some hF
    have hT48 : y.1 = (L42 ++ y46.1) ++ w47.1 := by rw [hT, ew47]; simp only [List.append_assoc]
    have hbl48 : L48.length ≤ y.1.length ∧ wt L48 ≤ wt y.1 := by rw [eL48]; exact room_d hT48 hbl
    have J46 : ∀ (ad49 : Nat → Nat), agr G.1 ad ad49 → ∀ (H : Heap) (locs : List Loc) (ls : Array Slot), va_P D classes (wld ct ad49 (xt G L48) y46.2) H → va_D A (wld ct ad49 (xt G L48) y46.2) → va_S A s.heap H locs → lv_has ls 2 [(1, va_re ad49 (M.2 b3 0)), (0, .ref (ad49 a))] → W p l e (headSpec wuX0_writeHeader ({ frames := 7, cells := y.1.length, slots := wt y.1, locals := 220 })).room s m ([.ref (ad a)] : List Value).toArray below meth c H locs (L48 : NN).length (wt L48) (MQ below (va_Qv (fun (u : Nat → Nat) => agr G.1 ad u) (fun u t => kE D ct u (xt G y.1) A y.2 t) A) ([.ref (ad a)] : List Value).toArray s y.1.length (wt y.1) A) (F0 m 104 ls []) := by
      intro ad49 hag H locs ls hP hD hS hl
      have hT : y.1 = L48 ++ w47.1 := by rw [hT48, eL48]
      have h2 : y.2 = w47.2 := by rw [h2, ew47]
      have hk : (xt G L48).2.1 a = 0 := by rw [eL48]; exact xt_k _ hc hk
      have hc : a < (xt G L48).1 := by rw [eL48]; exact xt_l _ hc
      have hk2 : (xt G L48).2.1 b2 = 9 := by rw [eL48]; exact xt_k _ hc2 hk2
      have hc2 : b2 < (xt G L48).1 := by rw [eL48]; exact xt_l _ hc2
      have hk3 : (xt G L48).2.1 b3 = 3 := by rw [eL48]; exact xt_k _ hc3 hk3
      have hc3 : b3 < (xt G L48).1 := by rw [eL48]; exact xt_l _ hc3
      have hk4 : (xt G L48).2.1 b4 = 13 := by rw [eL48]; exact xt_k _ hc4 hk4
      have hc4 : b4 < (xt G L48).1 := by rw [eL48]; exact xt_l _ hc4
      have hk6 : (xt G L48).2.1 b6 = 10 := by rw [eL48]; exact xt_k _ hc6 hk6
      have hc6 : b6 < (xt G L48).1 := by rw [eL48]; exact xt_l _ hc6
      have hk14 : (xt G L48).2.1 b14 = 10 := by rw [eL48]; exact xt_k _ hc14 hk14
      have hc14 : b14 < (xt G L48).1 := by rw [eL48]; exact xt_l _ hc14
      have hk21 : (xt G L48).2.1 b21 = 10 := by rw [eL48]; exact xt_k _ hc21 hk21
      have hc21 : b21 < (xt G L48).1 := by rw [eL48]; exact xt_l _ hc21
      have hk30 : (xt G L48).2.1 b30 = 10 := by rw [eL48]; exact xt_k _ hc30 hk30
      have hc30 : b30 < (xt G L48).1 := by rw [eL48]; exact xt_l _ hc30
      have hk37 : (xt G L48).2.1 b37 = 9 := by rw [eL48]; exact xt_k _ hc37 hk37
      have hc37 : b37 < (xt G L48).1 := by rw [eL48]; exact xt_l _ hc37
      have hk38 : (xt G L48).2.1 b38 = 3 := by rw [eL48]; exact xt_k _ hc38 hk38
      have hc38 : b38 < (xt G L48).1 := by rw [eL48]; exact xt_l _ hc38
      have hk44 : (xt G L48).2.1 b44 = 13 := by rw [eL48]; exact xt_k _ hc44 hk44
      have hc44 : b44 < (xt G L48).1 := by rw [eL48]; exact xt_l _ hc44
      refine lv_aloadq_n hx hb dX0_writeHeader_104 rfl (lv_at hl 0 rfl) ?_
      refine lv_iconst (v := (1 : Int32)) hx hb dX0_writeHeader_105 (by decide) ?_
      refine W_st (st' := [.int (1 : Int32), .ref (ad49 b4)]) (by rw [va_some ho4]) ?_
      obtain ⟨hvc, hF⟩ := chk_some hF
      refine va_iald hx hb hK hP b4 1 (wld_i ct ad49 (xt G L48) y46.2 hc4 hk4) rfl hvc dX0_writeHeader_106 ?_
      obtain ⟨x50, ex50, hF⟩ := ltt_some hF
      refine lv_topi (fun zx50 ezx50 => ?_)
      obtain rfl : x50 = zx50 := ex50.trans ezx50.symm
      refine lv_iconst (v := (2 : Int32)) hx hb dX0_writeHeader_107 (by decide) ?_
      obtain ⟨y51, hy51, hF⟩ := bnd_some hF
      obtain ⟨w52, hF, ew52⟩ := app_some hF
      obtain ⟨L53, eL53, hF⟩ := ltt_some hF
      have hT53 : y.1 = (L48 ++ y51.1) ++ w52.1 := by rw [hT, ew52]; simp only [List.append_assoc]
      have hbl53 : L53.length ≤ y.1.length ∧ wt L53 ≤ wt y.1 := by rw [eL53]; exact room_d hT53 hbl
      have J51 : ∀ (ad54 : Nat → Nat), agr G.1 ad ad54 → ∀ (H : Heap) (locs : List Loc) (ls : Array Slot), va_P D classes (wld ct ad54 (xt G L53) y51.2) H → va_D A (wld ct ad54 (xt G L53) y51.2) → va_S A s.heap H locs → lv_has ls 2 [(1, va_re ad54 (M.2 b3 0)), (0, .ref (ad54 a))] → W p l e (headSpec wuX0_writeHeader ({ frames := 7, cells := y.1.length, slots := wt y.1, locals := 220 })).room s m ([.ref (ad a)] : List Value).toArray below meth c H locs (L53 : NN).length (wt L53) (MQ below (va_Qv (fun (u : Nat → Nat) => agr G.1 ad u) (fun u t => kE D ct u (xt G y.1) A y.2 t) A) ([.ref (ad a)] : List Value).toArray s y.1.length (wt y.1) A) (F0 m 115 ls []) := by
        intro ad54 hag H locs ls hP hD hS hl
        have hT : y.1 = L53 ++ w52.1 := by rw [hT53, eL53]
        have h2 : y.2 = w52.2 := by rw [h2, ew52]
        have hk : (xt G L53).2.1 a = 0 := by rw [eL53]; exact xt_k _ hc hk
        have hc : a < (xt G L53).1 := by rw [eL53]; exact xt_l _ hc
        have hk2 : (xt G L53).2.1 b2 = 9 := by rw [eL53]; exact xt_k _ hc2 hk2
        have hc2 : b2 < (xt G L53).1 := by rw [eL53]; exact xt_l _ hc2
        have hk3 : (xt G L53).2.1 b3 = 3 := by rw [eL53]; exact xt_k _ hc3 hk3
        have hc3 : b3 < (xt G L53).1 := by rw [eL53]; exact xt_l _ hc3
        have hk4 : (xt G L53).2.1 b4 = 13 := by rw [eL53]; exact xt_k _ hc4 hk4
        have hc4 : b4 < (xt G L53).1 := by rw [eL53]; exact xt_l _ hc4
        have hk6 : (xt G L53).2.1 b6 = 10 := by rw [eL53]; exact xt_k _ hc6 hk6
        have hc6 : b6 < (xt G L53).1 := by rw [eL53]; exact xt_l _ hc6
        have hk14 : (xt G L53).2.1 b14 = 10 := by rw [eL53]; exact xt_k _ hc14 hk14
        have hc14 : b14 < (xt G L53).1 := by rw [eL53]; exact xt_l _ hc14
        have hk21 : (xt G L53).2.1 b21 = 10 := by rw [eL53]; exact xt_k _ hc21 hk21
        have hc21 : b21 < (xt G L53).1 := by rw [eL53]; exact xt_l _ hc21
        have hk30 : (xt G L53).2.1 b30 = 10 := by rw [eL53]; exact xt_k _ hc30 hk30
        have hc30 : b30 < (xt G L53).1 := by rw [eL53]; exact xt_l _ hc30
        have hk37 : (xt G L53).2.1 b37 = 9 := by rw [eL53]; exact xt_k _ hc37 hk37
        have hc37 : b37 < (xt G L53).1 := by rw [eL53]; exact xt_l _ hc37
        have hk38 : (xt G L53).2.1 b38 = 3 := by rw [eL53]; exact xt_k _ hc38 hk38
        have hc38 : b38 < (xt G L53).1 := by rw [eL53]; exact xt_l _ hc38
        have hk44 : (xt G L53).2.1 b44 = 13 := by rw [eL53]; exact xt_k _ hc44 hk44
        have hc44 : b44 < (xt G L53).1 := by rw [eL53]; exact xt_l _ hc44
        refine lv_aloadq_n hx hb dX0_writeHeader_115 rfl (lv_at hl 0 rfl) ?_
        refine lv_iconst (v := (1 : Int32)) hx hb dX0_writeHeader_116 (by decide) ?_
        refine W_st (st' := [.int (1 : Int32), .ref (ad54 b4)]) (by rw [va_some ho4]) ?_
        obtain ⟨hvc, hF⟩ := chk_some hF
        refine va_iald hx hb hK hP b4 1 (wld_i ct ad54 (xt G L53) y51.2 hc4 hk4) rfl hvc dX0_writeHeader_117 ?_
        obtain ⟨x55, ex55, hF⟩ := ltt_some hF
        refine lv_topi (fun zx55 ezx55 => ?_)
        obtain rfl : x55 = zx55 := ex55.trans ezx55.symm
        obtain ⟨y56, hy56, hF⟩ := bnd_some hF
        obtain ⟨w57, hF, ew57⟩ := app_some hF
        obtain ⟨L58, eL58, hF⟩ := ltt_some hF
        have hT58 : y.1 = (L53 ++ y56.1) ++ w57.1 := by rw [hT, ew57]; simp only [List.append_assoc]
        have hbl58 : L58.length ≤ y.1.length ∧ wt L58 ≤ wt y.1 := by rw [eL58]; exact room_d hT58 hbl
        have J56 : ∀ (ad59 : Nat → Nat), agr G.1 ad ad59 → ∀ (H : Heap) (locs : List Loc) (ls : Array Slot), va_P D classes (wld ct ad59 (xt G L58) y56.2) H → va_D A (wld ct ad59 (xt G L58) y56.2) → va_S A s.heap H locs → lv_has ls 2 [(1, va_re ad59 (M.2 b3 0)), (0, .ref (ad59 a))] → W p l e (headSpec wuX0_writeHeader ({ frames := 7, cells := y.1.length, slots := wt y.1, locals := 220 })).room s m ([.ref (ad a)] : List Value).toArray below meth c H locs (L58 : NN).length (wt L58) (MQ below (va_Qv (fun (u : Nat → Nat) => agr G.1 ad u) (fun u t => kE D ct u (xt G y.1) A y.2 t) A) ([.ref (ad a)] : List Value).toArray s y.1.length (wt y.1) A) (F0 m 136 ls []) := by
          intro ad59 hag H locs ls hP hD hS hl
          have hT : y.1 = L58 ++ w57.1 := by rw [hT58, eL58]
          have h2 : y.2 = w57.2 := by rw [h2, ew57]
          have hk : (xt G L58).2.1 a = 0 := by rw [eL58]; exact xt_k _ hc hk
          have hc : a < (xt G L58).1 := by rw [eL58]; exact xt_l _ hc
          have hk2 : (xt G L58).2.1 b2 = 9 := by rw [eL58]; exact xt_k _ hc2 hk2
          have hc2 : b2 < (xt G L58).1 := by rw [eL58]; exact xt_l _ hc2
          have hk3 : (xt G L58).2.1 b3 = 3 := by rw [eL58]; exact xt_k _ hc3 hk3
          have hc3 : b3 < (xt G L58).1 := by rw [eL58]; exact xt_l _ hc3
          have hk4 : (xt G L58).2.1 b4 = 13 := by rw [eL58]; exact xt_k _ hc4 hk4
          have hc4 : b4 < (xt G L58).1 := by rw [eL58]; exact xt_l _ hc4
          have hk6 : (xt G L58).2.1 b6 = 10 := by rw [eL58]; exact xt_k _ hc6 hk6
          have hc6 : b6 < (xt G L58).1 := by rw [eL58]; exact xt_l _ hc6
          have hk14 : (xt G L58).2.1 b14 = 10 := by rw [eL58]; exact xt_k _ hc14 hk14
          have hc14 : b14 < (xt G L58).1 := by rw [eL58]; exact xt_l _ hc14
          have hk21 : (xt G L58).2.1 b21 = 10 := by rw [eL58]; exact xt_k _ hc21 hk21
          have hc21 : b21 < (xt G L58).1 := by rw [eL58]; exact xt_l _ hc21
          have hk30 : (xt G L58).2.1 b30 = 10 := by rw [eL58]; exact xt_k _ hc30 hk30
          have hc30 : b30 < (xt G L58).1 := by rw [eL58]; exact xt_l _ hc30
          have hk37 : (xt G L58).2.1 b37 = 9 := by rw [eL58]; exact xt_k _ hc37 hk37
          have hc37 : b37 < (xt G L58).1 := by rw [eL58]; exact xt_l _ hc37
          have hk38 : (xt G L58).2.1 b38 = 3 := by rw [eL58]; exact xt_k _ hc38 hk38
          have hc38 : b38 < (xt G L58).1 := by rw [eL58]; exact xt_l _ hc38
          have hk44 : (xt G L58).2.1 b44 = 13 := by rw [eL58]; exact xt_k _ hc44 hk44
          have hc44 : b44 < (xt G L58).1 := by rw [eL58]; exact xt_l _ hc44
          refine lv_aloadq_n hx hb dX0_writeHeader_136 rfl (lv_at hl 0 rfl) ?_
          refine lv_bipush (v := (11 : Int32)) hx hb dX0_writeHeader_137 (by decide) ?_
          refine W_st (st' := [.int (11 : Int32), .ref (ad59 b4)]) (by rw [va_some ho4]) ?_
          obtain ⟨hvc, hF⟩ := chk_some hF
          refine va_iald hx hb hK hP b4 1 (wld_i ct ad59 (xt G L58) y56.2 hc4 hk4) rfl hvc dX0_writeHeader_139 ?_
          obtain ⟨x60, ex60, hF⟩ := ltt_some hF
          refine lv_topi (fun zx60 ezx60 => ?_)
          obtain rfl : x60 = zx60 := ex60.trans ezx60.symm
          obtain ⟨y61, hy61, hF⟩ := bnd_some hF
          obtain ⟨w62, hF, ew62⟩ := app_some hF
          obtain ⟨L63, eL63, hF⟩ := ltt_some hF
          have hT63 : y.1 = (L58 ++ y61.1) ++ w62.1 := by rw [hT, ew62]; simp only [List.append_assoc]
          have hbl63 : L63.length ≤ y.1.length ∧ wt L63 ≤ wt y.1 := by rw [eL63]; exact room_d hT63 hbl
          have J61 : ∀ (ad64 : Nat → Nat), agr G.1 ad ad64 → ∀ (H : Heap) (locs : List Loc) (ls : Array Slot), va_P D classes (wld ct ad64 (xt G L63) y61.2) H → va_D A (wld ct ad64 (xt G L63) y61.2) → va_S A s.heap H locs → lv_has ls 2 [(1, va_re ad64 (M.2 b3 0)), (0, .ref (ad64 a))] → W p l e (headSpec wuX0_writeHeader ({ frames := 7, cells := y.1.length, slots := wt y.1, locals := 220 })).room s m ([.ref (ad a)] : List Value).toArray below meth c H locs (L63 : NN).length (wt L63) (MQ below (va_Qv (fun (u : Nat → Nat) => agr G.1 ad u) (fun u t => kE D ct u (xt G y.1) A y.2 t) A) ([.ref (ad a)] : List Value).toArray s y.1.length (wt y.1) A) (F0 m 148 ls []) := by
            intro ad64 hag H locs ls hP hD hS hl
            have hT : y.1 = L63 ++ w62.1 := by rw [hT63, eL63]
            have h2 : y.2 = w62.2 := by rw [h2, ew62]
            have hk : (xt G L63).2.1 a = 0 := by rw [eL63]; exact xt_k _ hc hk
            have hc : a < (xt G L63).1 := by rw [eL63]; exact xt_l _ hc
            have hk2 : (xt G L63).2.1 b2 = 9 := by rw [eL63]; exact xt_k _ hc2 hk2
            have hc2 : b2 < (xt G L63).1 := by rw [eL63]; exact xt_l _ hc2
            have hk3 : (xt G L63).2.1 b3 = 3 := by rw [eL63]; exact xt_k _ hc3 hk3
            have hc3 : b3 < (xt G L63).1 := by rw [eL63]; exact xt_l _ hc3
            have hk4 : (xt G L63).2.1 b4 = 13 := by rw [eL63]; exact xt_k _ hc4 hk4
            have hc4 : b4 < (xt G L63).1 := by rw [eL63]; exact xt_l _ hc4
            have hk6 : (xt G L63).2.1 b6 = 10 := by rw [eL63]; exact xt_k _ hc6 hk6
            have hc6 : b6 < (xt G L63).1 := by rw [eL63]; exact xt_l _ hc6
            have hk14 : (xt G L63).2.1 b14 = 10 := by rw [eL63]; exact xt_k _ hc14 hk14
            have hc14 : b14 < (xt G L63).1 := by rw [eL63]; exact xt_l _ hc14
            have hk21 : (xt G L63).2.1 b21 = 10 := by rw [eL63]; exact xt_k _ hc21 hk21
            have hc21 : b21 < (xt G L63).1 := by rw [eL63]; exact xt_l _ hc21
            have hk30 : (xt G L63).2.1 b30 = 10 := by rw [eL63]; exact xt_k _ hc30 hk30
            have hc30 : b30 < (xt G L63).1 := by rw [eL63]; exact xt_l _ hc30
            have hk37 : (xt G L63).2.1 b37 = 9 := by rw [eL63]; exact xt_k _ hc37 hk37
            have hc37 : b37 < (xt G L63).1 := by rw [eL63]; exact xt_l _ hc37
            have hk38 : (xt G L63).2.1 b38 = 3 := by rw [eL63]; exact xt_k _ hc38 hk38
            have hc38 : b38 < (xt G L63).1 := by rw [eL63]; exact xt_l _ hc38
            have hk44 : (xt G L63).2.1 b44 = 13 := by rw [eL63]; exact xt_k _ hc44 hk44
            have hc44 : b44 < (xt G L63).1 := by rw [eL63]; exact xt_l _ hc44
            refine lv_aload_n hx hb dX0_writeHeader_148 rfl (lv_at hl 1 rfl) ?_
            refine va_get (D := D) (ci := 0) (v := va_re ad64 (y61.2.2 a 3)) (C := RX0) (T := TX0) (N := 21) hx hb hts (mus hf_X0) hown hK hP a (wld_o ct ad64 (xt G L63) y61.2 hc hk (by decide)) rfl 3 (by decide) (hts (.fieldLink RX0 36 "VideoSuite$Coder" "work" "LVideoSuite$Work;") (mu mw_817)) (fun _ h9 => h9) rfl dX0_writeHeader_149 ?_
            obtain ⟨b65, ho65, hc65, hk65, hF⟩ := dr_some hF
            refine W_st (st' := [.ref (ad64 b65)]) (by rw [va_some ho65]) ?_
            refine va_get (D := D) (ci := 9) (v := va_re ad64 (y61.2.2 b65 1)) (C := RX9) (T := TX9) (N := 20) hx hb hts (mus hf_X9) hown hK hP b65 (wld_o ct ad64 (xt G L63) y61.2 hc65 hk65 (by decide)) rfl 1 (by decide) (hts (.fieldLink RX0 81 "VideoSuite$Work" "head" "LVideoSuite$Header;") (mu mw_425)) (fun _ h9 => h9) rfl dX0_writeHeader_152 ?_
            obtain ⟨b66, ho66, hc66, hk66, hF⟩ := dr_some hF
            refine W_st (st' := [.ref (ad64 b66)]) (by rw [va_some ho66]) ?_
            obtain ⟨y67, hy67, hF⟩ := bnd_some hF
            have hf9 := wA_in hD hA9 hS
            refine va_calli (va_runV (As := []) (rest := []) ⟨hx, hb, hml, hown, hts⟩ (kX3_isOwn l D ct ad64 Z (xt G L63) y61.2 H.size b66 y67 hc66 hk66 hy67) (cwV 0 hts gX0_writeHeader_X3_isOwn rfl rfl rfl (by decide +kernel) ⟨Nat.le_of_ble_eq_true rfl, Nat.le_of_ble_eq_true rfl⟩) ⟨fun a U g mk q => by obtain ⟨q0, q1, qP, qK, qD, qZ, qN⟩ := q; exact ⟨q0, q1, qP, va_K.moved (u := U) (U := U.calling g mk a) (Vm.Alike.refl U.vm) qK, qD, sF.moved (u := U) (U := U.calling g mk a) (Vm.Alike.refl U.vm) qZ, nF.same rfl qN⟩, va_recv hK hP (ci := 3) (q0 := b66) rfl (wld_o ct ad64 (xt G L63) y61.2 hc66 hk66 (by decide)), fun U hU hW => ⟨rfl, by rw [hU], by rw [hU]; exact hP, va_K.moved hW.alike hK, hD.weaken (fun _ _ _ _ => trivial), by rw [hU]; exact ((hZ.kept hS.2.1).narrow hf9).moved hW.alike, hN.warm hW⟩⟩ rfl rfl hl.1 rfl (lv_room (Nat.le_of_ble_eq_true rfl)) dX0_writeHeader_155 (room_d hT hbl)) hS (fun q _ h => hf9 q h) hf9 (fun r u t H locs ht hvm hw hB hz1 hk1 hS => ?_)
            obtain ⟨hP, hK9, hD9⟩ := hB
            rw [ht] at hP
            try dsimp only at hw
            subst hw
            refine W_cs (k := (L63 : NN).length) (n := wt L63) rfl rfl ?_
            have hD := hD9.weaken (fun _ q _ h => hf9 q.1 h)
            obtain ⟨y68, hy68, hF⟩ := bnd_some hF
            obtain ⟨w69, hF, ew69⟩ := app_some hF
            obtain ⟨L70, eL70, hF⟩ := ltt_some hF
            have hT70 : y.1 = (L63 ++ y68.1) ++ w69.1 := by rw [hT, ew69]; simp only [List.append_assoc]
            have hbl70 : L70.length ≤ y.1.length ∧ wt L70 ≤ wt y.1 := by rw [eL70]; exact room_d hT70 hbl
            have J68 : ∀ (ad71 : Nat → Nat), agr G.1 ad ad71 → ∀ (H : Heap) (locs : List Loc) (ls : Array Slot), va_P D classes (wld ct ad71 (xt G L70) y68.2) H → va_D A (wld ct ad71 (xt G L70) y68.2) → va_S A s.heap H locs → lv_has ls 2 [(1, va_re ad71 (M.2 b3 0)), (0, .ref (ad71 a))] → W p l e (headSpec wuX0_writeHeader ({ frames := 7, cells := y.1.length, slots := wt y.1, locals := 220 })).room s m ([.ref (ad a)] : List Value).toArray below meth c H locs (L70 : NN).length (wt L70) (MQ below (va_Qv (fun (u : Nat → Nat) => agr G.1 ad u) (fun u t => kE D ct u (xt G y.1) A y.2 t) A) ([.ref (ad a)] : List Value).toArray s y.1.length (wt y.1) A) (F0 m 166 ls []) := by
              intro ad71 hag H locs ls hP hD hS hl
              have hT : y.1 = L70 ++ w69.1 := by rw [hT70, eL70]
              have h2 : y.2 = w69.2 := by rw [h2, ew69]
              have hk : (xt G L70).2.1 a = 0 := by rw [eL70]; exact xt_k _ hc hk
              have hc : a < (xt G L70).1 := by rw [eL70]; exact xt_l _ hc
              have hk2 : (xt G L70).2.1 b2 = 9 := by rw [eL70]; exact xt_k _ hc2 hk2
              have hc2 : b2 < (xt G L70).1 := by rw [eL70]; exact xt_l _ hc2
              have hk3 : (xt G L70).2.1 b3 = 3 := by rw [eL70]; exact xt_k _ hc3 hk3
              have hc3 : b3 < (xt G L70).1 := by rw [eL70]; exact xt_l _ hc3
              have hk4 : (xt G L70).2.1 b4 = 13 := by rw [eL70]; exact xt_k _ hc4 hk4
              have hc4 : b4 < (xt G L70).1 := by rw [eL70]; exact xt_l _ hc4
              have hk6 : (xt G L70).2.1 b6 = 10 := by rw [eL70]; exact xt_k _ hc6 hk6
              have hc6 : b6 < (xt G L70).1 := by rw [eL70]; exact xt_l _ hc6
              have hk14 : (xt G L70).2.1 b14 = 10 := by rw [eL70]; exact xt_k _ hc14 hk14
              have hc14 : b14 < (xt G L70).1 := by rw [eL70]; exact xt_l _ hc14
              have hk21 : (xt G L70).2.1 b21 = 10 := by rw [eL70]; exact xt_k _ hc21 hk21
              have hc21 : b21 < (xt G L70).1 := by rw [eL70]; exact xt_l _ hc21
              have hk30 : (xt G L70).2.1 b30 = 10 := by rw [eL70]; exact xt_k _ hc30 hk30
              have hc30 : b30 < (xt G L70).1 := by rw [eL70]; exact xt_l _ hc30
              have hk37 : (xt G L70).2.1 b37 = 9 := by rw [eL70]; exact xt_k _ hc37 hk37
              have hc37 : b37 < (xt G L70).1 := by rw [eL70]; exact xt_l _ hc37
              have hk38 : (xt G L70).2.1 b38 = 3 := by rw [eL70]; exact xt_k _ hc38 hk38
              have hc38 : b38 < (xt G L70).1 := by rw [eL70]; exact xt_l _ hc38
              have hk44 : (xt G L70).2.1 b44 = 13 := by rw [eL70]; exact xt_k _ hc44 hk44
              have hc44 : b44 < (xt G L70).1 := by rw [eL70]; exact xt_l _ hc44
              have hk65 : (xt G L70).2.1 b65 = 9 := by rw [eL70]; exact xt_k _ hc65 hk65
              have hc65 : b65 < (xt G L70).1 := by rw [eL70]; exact xt_l _ hc65
              have hk66 : (xt G L70).2.1 b66 = 3 := by rw [eL70]; exact xt_k _ hc66 hk66
              have hc66 : b66 < (xt G L70).1 := by rw [eL70]; exact xt_l _ hc66
              refine lv_aload_n hx hb dX0_writeHeader_166 rfl (lv_at hl 1 rfl) ?_
              refine va_get (D := D) (ci := 0) (v := va_re ad71 (y68.2.2 a 3)) (C := RX0) (T := TX0) (N := 21) hx hb hts (mus hf_X0) hown hK hP a (wld_o ct ad71 (xt G L70) y68.2 hc hk (by decide)) rfl 3 (by decide) (hts (.fieldLink RX0 36 "VideoSuite$Coder" "work" "LVideoSuite$Work;") (mu mw_817)) (fun _ h9 => h9) rfl dX0_writeHeader_167 ?_
              obtain ⟨b72, ho72, hc72, hk72, hF⟩ := dr_some hF
              refine W_st (st' := [.ref (ad71 b72)]) (by rw [va_some ho72]) ?_
              refine va_get (D := D) (ci := 9) (v := va_re ad71 (y68.2.2 b72 2)) (C := RX9) (T := TX9) (N := 20) hx hb hts (mus hf_X9) hown hK hP b72 (wld_o ct ad71 (xt G L70) y68.2 hc72 hk72 (by decide)) rfl 2 (by decide) (hts (.fieldLink RX0 85 "VideoSuite$Work" "par" "[I") (mu mw_430)) (fun _ h9 => h9) rfl dX0_writeHeader_170 ?_
              refine lv_iconst (v := (1 : Int32)) hx hb dX0_writeHeader_173 (by decide) ?_
              obtain ⟨b73, ho73, hc73, hk73, hF⟩ := dr_some hF
              refine W_st (st' := [.int (1 : Int32), .ref (ad71 b73)]) (by rw [va_some ho73]) ?_
              obtain ⟨hvc, hF⟩ := chk_some hF
              refine va_iald hx hb hK hP b73 1 (wld_i ct ad71 (xt G L70) y68.2 hc73 hk73) rfl hvc dX0_writeHeader_174 ?_
              obtain ⟨x74, ex74, hF⟩ := ltt_some hF
              refine lv_topi (fun zx74 ezx74 => ?_)
              obtain rfl : x74 = zx74 := ex74.trans ezx74.symm
              refine lv_iconst (v := (1 : Int32)) hx hb dX0_writeHeader_175 (by decide) ?_
              obtain ⟨y75, hy75, hF⟩ := bnd_some hF
              obtain ⟨w76, hF, ew76⟩ := app_some hF
              obtain ⟨L77, eL77, hF⟩ := ltt_some hF
              have hT77 : y.1 = (L70 ++ y75.1) ++ w76.1 := by rw [hT, ew76]; simp only [List.append_assoc]
              have hbl77 : L77.length ≤ y.1.length ∧ wt L77 ≤ wt y.1 := by rw [eL77]; exact room_d hT77 hbl
              have J75 : ∀ (ad78 : Nat → Nat), agr G.1 ad ad78 → ∀ (H : Heap) (locs : List Loc) (ls : Array Slot), va_P D classes (wld ct ad78 (xt G L77) y75.2) H → va_D A (wld ct ad78 (xt G L77) y75.2) → va_S A s.heap H locs → lv_has ls 2 [(1, va_re ad78 (M.2 b3 0)), (0, .ref (ad78 a))] → W p l e (headSpec wuX0_writeHeader ({ frames := 7, cells := y.1.length, slots := wt y.1, locals := 220 })).room s m ([.ref (ad a)] : List Value).toArray below meth c H locs (L77 : NN).length (wt L77) (MQ below (va_Qv (fun (u : Nat → Nat) => agr G.1 ad u) (fun u t => kE D ct u (xt G y.1) A y.2 t) A) ([.ref (ad a)] : List Value).toArray s y.1.length (wt y.1) A) (F0 m 195 ls []) := by
                intro ad78 hag H locs ls hP hD hS hl
                have hT : y.1 = L77 ++ w76.1 := by rw [hT77, eL77]
                have h2 : y.2 = w76.2 := by rw [h2, ew76]
                have hk : (xt G L77).2.1 a = 0 := by rw [eL77]; exact xt_k _ hc hk
                have hc : a < (xt G L77).1 := by rw [eL77]; exact xt_l _ hc
                have hk2 : (xt G L77).2.1 b2 = 9 := by rw [eL77]; exact xt_k _ hc2 hk2
                have hc2 : b2 < (xt G L77).1 := by rw [eL77]; exact xt_l _ hc2
                have hk3 : (xt G L77).2.1 b3 = 3 := by rw [eL77]; exact xt_k _ hc3 hk3
                have hc3 : b3 < (xt G L77).1 := by rw [eL77]; exact xt_l _ hc3
                have hk4 : (xt G L77).2.1 b4 = 13 := by rw [eL77]; exact xt_k _ hc4 hk4
                have hc4 : b4 < (xt G L77).1 := by rw [eL77]; exact xt_l _ hc4
                have hk6 : (xt G L77).2.1 b6 = 10 := by rw [eL77]; exact xt_k _ hc6 hk6
                have hc6 : b6 < (xt G L77).1 := by rw [eL77]; exact xt_l _ hc6
                have hk14 : (xt G L77).2.1 b14 = 10 := by rw [eL77]; exact xt_k _ hc14 hk14
                have hc14 : b14 < (xt G L77).1 := by rw [eL77]; exact xt_l _ hc14
                have hk21 : (xt G L77).2.1 b21 = 10 := by rw [eL77]; exact xt_k _ hc21 hk21
                have hc21 : b21 < (xt G L77).1 := by rw [eL77]; exact xt_l _ hc21
                have hk30 : (xt G L77).2.1 b30 = 10 := by rw [eL77]; exact xt_k _ hc30 hk30
                have hc30 : b30 < (xt G L77).1 := by rw [eL77]; exact xt_l _ hc30
                have hk37 : (xt G L77).2.1 b37 = 9 := by rw [eL77]; exact xt_k _ hc37 hk37
                have hc37 : b37 < (xt G L77).1 := by rw [eL77]; exact xt_l _ hc37
                have hk38 : (xt G L77).2.1 b38 = 3 := by rw [eL77]; exact xt_k _ hc38 hk38
                have hc38 : b38 < (xt G L77).1 := by rw [eL77]; exact xt_l _ hc38
                have hk44 : (xt G L77).2.1 b44 = 13 := by rw [eL77]; exact xt_k _ hc44 hk44
                have hc44 : b44 < (xt G L77).1 := by rw [eL77]; exact xt_l _ hc44
                have hk65 : (xt G L77).2.1 b65 = 9 := by rw [eL77]; exact xt_k _ hc65 hk65
                have hc65 : b65 < (xt G L77).1 := by rw [eL77]; exact xt_l _ hc65
                have hk66 : (xt G L77).2.1 b66 = 3 := by rw [eL77]; exact xt_k _ hc66 hk66
                have hc66 : b66 < (xt G L77).1 := by rw [eL77]; exact xt_l _ hc66
                have hk72 : (xt G L77).2.1 b72 = 9 := by rw [eL77]; exact xt_k _ hc72 hk72
                have hc72 : b72 < (xt G L77).1 := by rw [eL77]; exact xt_l _ hc72
                have hk73 : (xt G L77).2.1 b73 = 13 := by rw [eL77]; exact xt_k _ hc73 hk73
                have hc73 : b73 < (xt G L77).1 := by rw [eL77]; exact xt_l _ hc73
                refine lv_aload_n hx hb dX0_writeHeader_195 rfl (lv_at hl 1 rfl) ?_
                refine va_get (D := D) (ci := 0) (v := va_re ad78 (y75.2.2 a 2)) (C := RX0) (T := TX0) (N := 21) hx hb hts (mus hf_X0) hown hK hP a (wld_o ct ad78 (xt G L77) y75.2 hc hk (by decide)) rfl 2 (by decide) (hts (.fieldLink RX0 29 "VideoSuite$Coder" "writer" "LVideoSuite$Writer;") (mu mw_815)) (fun _ h9 => h9) rfl dX0_writeHeader_196 ?_
                refine lv_iconst (v := (0 : Int32)) hx hb dX0_writeHeader_199 (by decide) ?_
                refine lv_aloadq_n hx hb dX0_writeHeader_200 rfl (lv_at hl 0 rfl) ?_
                refine lv_bipush (v := (12 : Int32)) hx hb dX0_writeHeader_201 (by decide) ?_
                refine W_st (st' := [.int (12 : Int32), .ref (ad78 b4), .int (0 : Int32), va_re ad78 (y75.2.2 a 2)]) (by rw [va_some ho4]) ?_
                obtain ⟨hvc, hF⟩ := chk_some hF
                refine va_iald hx hb hK hP b4 1 (wld_i ct ad78 (xt G L77) y75.2 hc4 hk4) rfl hvc dX0_writeHeader_203 ?_
                obtain ⟨x79, ex79, hF⟩ := ltt_some hF
                refine lv_topi (fun zx79 ezx79 => ?_)
                obtain rfl : x79 = zx79 := ex79.trans ezx79.symm
                refine lv_aload_n hx hb dX0_writeHeader_204 rfl (lv_at hl 1 rfl) ?_
                refine va_get (D := D) (ci := 0) (v := va_re ad78 (y75.2.2 a 1)) (C := RX0) (T := TX0) (N := 21) hx hb hts (mus hf_X0) hown hK hP a (wld_o ct ad78 (xt G L77) y75.2 hc hk (by decide)) rfl 1 (by decide) (hts (.fieldLink RX0 23 "VideoSuite$Coder" "now" "[I") (mu mw_813)) (fun _ h9 => h9) rfl dX0_writeHeader_205 ?_
                refine lv_iconst (v := (3 : Int32)) hx hb dX0_writeHeader_208 (by decide) ?_
                obtain ⟨b80, ho80, hc80, hk80, hF⟩ := dr_some hF
                refine W_st (st' := [.int (3 : Int32), .ref (ad78 b80), .int x79, .int (0 : Int32), va_re ad78 (y75.2.2 a 2)]) (by rw [va_some ho80]) ?_
                obtain ⟨hvc, hF⟩ := chk_some hF
                refine va_iald hx hb hK hP b80 1 (wld_i ct ad78 (xt G L77) y75.2 hc80 hk80) rfl hvc dX0_writeHeader_209 ?_
                obtain ⟨x81, ex81, hF⟩ := ltt_some hF
                refine lv_topi (fun zx81 ezx81 => ?_)
                obtain rfl : x81 = zx81 := ex81.trans ezx81.symm
                refine lv_isub hx hb dX0_writeHeader_210 ?_
                obtain ⟨x82, ex82, hF⟩ := ltt_some hF
                refine lv_topi (fun zx82 ezx82 => ?_)
                obtain rfl : x82 = zx82 := ex82.trans ezx82.symm
                obtain ⟨b83, ho83, hc83, hk83, hF⟩ := dr_some hF
                refine W_st (st' := [.int x82, .int (0 : Int32), .ref (ad78 b83)]) (by rw [va_some ho83]) ?_
                obtain ⟨hq85, hF⟩ := chk_some hF
                obtain ⟨y84, hy84, hF⟩ := bnd_some hF
                obtain ⟨w86, hF, ew86⟩ := app_some hF
                obtain ⟨L87, eL87, hF⟩ := ltt_some hF
                have hT87 : y.1 = (L77 ++ y84.1) ++ w86.1 := by rw [hT, ew86]; simp only [List.append_assoc]
                have hf9 := wA_in hD hA9 hS
                refine va_callv (va_runV (As := [.int (0 : Int32), .int x82]) (rest := []) ⟨hx, hb, hml, hown, hts⟩ (kX10_se l D ct ad78 Z (xt G L77) y75.2 _ b83 ((0 : Int32)) x82 y84 hc83 hk83 hy84) (cwV 2 hts gX0_writeHeader_X10_se rfl rfl rfl (by decide +kernel) ⟨Nat.le_of_ble_eq_true rfl, Nat.le_of_ble_eq_true rfl⟩) ⟨fun a U g mk q => by obtain ⟨q0, q1, qP, qK, qD, qZ, qN⟩ := q; exact ⟨q0, q1, qP, va_K.moved (u := U) (U := U.calling g mk a) (Vm.Alike.refl U.vm) qK, qD, sF.moved (u := U) (U := U.calling g mk a) (Vm.Alike.refl U.vm) qZ, nF.same rfl qN⟩, va_recv hK hP (ci := 10) (q0 := b83) rfl (wld_o ct ad78 (xt G L77) y75.2 hc83 hk83 (by decide)), fun U hU hW => ⟨rfl, by rw [hU], by rw [hU]; exact hP, va_K.moved hW.alike hK, hD.weaken (fun _ _ _ _ => trivial), by rw [hU]; exact ((hZ.kept hS.2.1).narrow hf9).moved hW.alike, hN.warm hW⟩⟩ rfl rfl hl.1 rfl (lv_room (Nat.le_of_ble_eq_true rfl)) dX0_writeHeader_211 (room_s hT87 hbl)) hS (fun q _ h => hf9 q h) hf9 (fun ad88 t H locs ht hvm hw hB hz1 hk1 hS => ?_)
                have hn89 := hw
                obtain ⟨hP, hK9, hD9⟩ := hB
                rw [ht] at hP
                have hD := hD9.weaken (fun _ q _ h => hf9 q.1 h)
                rw [xt_xt, ← eL87] at hP hD
                refine W_cs (k := L87.length) (n := wt L87) (by rw [eL87]; exact (len_s L77 y84.1).symm) (by rw [eL87]; exact (wt_app L77 y84.1).symm) ?_
                have hT : y.1 = L87 ++ w86.1 := by rw [hT87, eL87]
                have h2 : y.2 = w86.2 := by rw [h2, ew86]
                have hl := lv_sub (l' := [(1, va_re ad78 (M.2 b3 0)), (0, .ref (ad78 a))]) hl [0, 1] rfl
                have e9 : ([(1, va_re ad78 (M.2 b3 0)), (0, .ref (ad78 a))] : List (Nat × Value)) = [(1, va_re ad88 (M.2 b3 0)), (0, .ref (ad88 a))] := (by first | rfl | simp only [agr_re hn89 hq85, hn89 a hc])
                rw [e9] at hl
                clear e9
                have hk : (xt G L87).2.1 a = 0 := by rw [eL87]; exact xt_k _ hc hk
                have hc : a < (xt G L87).1 := by rw [eL87]; exact xt_l _ hc
                have hk2 : (xt G L87).2.1 b2 = 9 := by rw [eL87]; exact xt_k _ hc2 hk2
                have hc2 : b2 < (xt G L87).1 := by rw [eL87]; exact xt_l _ hc2
                have hk3 : (xt G L87).2.1 b3 = 3 := by rw [eL87]; exact xt_k _ hc3 hk3
                have hc3 : b3 < (xt G L87).1 := by rw [eL87]; exact xt_l _ hc3
                have hk4 : (xt G L87).2.1 b4 = 13 := by rw [eL87]; exact xt_k _ hc4 hk4
                have hc4 : b4 < (xt G L87).1 := by rw [eL87]; exact xt_l _ hc4
                have hk6 : (xt G L87).2.1 b6 = 10 := by rw [eL87]; exact xt_k _ hc6 hk6
                have hc6 : b6 < (xt G L87).1 := by rw [eL87]; exact xt_l _ hc6
                have hk14 : (xt G L87).2.1 b14 = 10 := by rw [eL87]; exact xt_k _ hc14 hk14
                have hc14 : b14 < (xt G L87).1 := by rw [eL87]; exact xt_l _ hc14
                have hk21 : (xt G L87).2.1 b21 = 10 := by rw [eL87]; exact xt_k _ hc21 hk21
                have hc21 : b21 < (xt G L87).1 := by rw [eL87]; exact xt_l _ hc21
                have hk30 : (xt G L87).2.1 b30 = 10 := by rw [eL87]; exact xt_k _ hc30 hk30
                have hc30 : b30 < (xt G L87).1 := by rw [eL87]; exact xt_l _ hc30
                have hk37 : (xt G L87).2.1 b37 = 9 := by rw [eL87]; exact xt_k _ hc37 hk37
                have hc37 : b37 < (xt G L87).1 := by rw [eL87]; exact xt_l _ hc37
                have hk38 : (xt G L87).2.1 b38 = 3 := by rw [eL87]; exact xt_k _ hc38 hk38
                have hc38 : b38 < (xt G L87).1 := by rw [eL87]; exact xt_l _ hc38
                have hk44 : (xt G L87).2.1 b44 = 13 := by rw [eL87]; exact xt_k _ hc44 hk44
                have hc44 : b44 < (xt G L87).1 := by rw [eL87]; exact xt_l _ hc44
                have hk65 : (xt G L87).2.1 b65 = 9 := by rw [eL87]; exact xt_k _ hc65 hk65
                have hc65 : b65 < (xt G L87).1 := by rw [eL87]; exact xt_l _ hc65
                have hk66 : (xt G L87).2.1 b66 = 3 := by rw [eL87]; exact xt_k _ hc66 hk66
                have hc66 : b66 < (xt G L87).1 := by rw [eL87]; exact xt_l _ hc66
                have hk72 : (xt G L87).2.1 b72 = 9 := by rw [eL87]; exact xt_k _ hc72 hk72
                have hc72 : b72 < (xt G L87).1 := by rw [eL87]; exact xt_l _ hc72
                have hk73 : (xt G L87).2.1 b73 = 13 := by rw [eL87]; exact xt_k _ hc73 hk73
                have hc73 : b73 < (xt G L87).1 := by rw [eL87]; exact xt_l _ hc73
                have hk80 : (xt G L87).2.1 b80 = 13 := by rw [eL87]; exact xt_k _ hc80 hk80
                have hc80 : b80 < (xt G L87).1 := by rw [eL87]; exact xt_l _ hc80
                have hk83 : (xt G L87).2.1 b83 = 10 := by rw [eL87]; exact xt_k _ hc83 hk83
                have hc83 : b83 < (xt G L87).1 := by rw [eL87]; exact xt_l _ hc83
                have hag := agr_t (xt_ge _ _) hag hn89
                refine lv_aload_n hx hb dX0_writeHeader_214 rfl (lv_at hl 1 rfl) ?_
                refine va_get (D := D) (ci := 0) (v := va_re ad88 (y84.2.2 a 2)) (C := RX0) (T := TX0) (N := 21) hx hb hts (mus hf_X0) hown hK hP a (wld_o ct ad88 (xt G L87) y84.2 hc hk (by decide)) rfl 2 (by decide) (hts (.fieldLink RX0 29 "VideoSuite$Coder" "writer" "LVideoSuite$Writer;") (mu mw_815)) (fun _ h9 => h9) rfl dX0_writeHeader_215 ?_
                refine lv_iconst (v := (0 : Int32)) hx hb dX0_writeHeader_218 (by decide) ?_
                refine lv_aloadq_n hx hb dX0_writeHeader_219 rfl (lv_at hl 0 rfl) ?_
                refine lv_bipush (v := (13 : Int32)) hx hb dX0_writeHeader_220 (by decide) ?_
                refine W_st (st' := [.int (13 : Int32), .ref (ad88 b4), .int (0 : Int32), va_re ad88 (y84.2.2 a 2)]) (by rw [va_some ho4]) ?_
                obtain ⟨hvc, hF⟩ := chk_some hF
                refine va_iald hx hb hK hP b4 1 (wld_i ct ad88 (xt G L87) y84.2 hc4 hk4) rfl hvc dX0_writeHeader_222 ?_
                obtain ⟨x90, ex90, hF⟩ := ltt_some hF
                refine lv_topi (fun zx90 ezx90 => ?_)
                obtain rfl : x90 = zx90 := ex90.trans ezx90.symm
                obtain ⟨b91, ho91, hc91, hk91, hF⟩ := dr_some hF
                refine W_st (st' := [.int x90, .int (0 : Int32), .ref (ad88 b91)]) (by rw [va_some ho91]) ?_
                obtain ⟨hq93, hF⟩ := chk_some hF
                obtain ⟨y92, hy92, hF⟩ := bnd_some hF
                obtain ⟨w94, hF, ew94⟩ := app_some hF
                obtain ⟨L95, eL95, hF⟩ := ltt_some hF
                have hT95 : y.1 = (L87 ++ y92.1) ++ w94.1 := by rw [hT, ew94]; simp only [List.append_assoc]
                have hf9 := wA_in hD hA9 hS
                refine va_callv (va_runV (As := [.int (0 : Int32), .int x90]) (rest := []) ⟨hx, hb, hml, hown, hts⟩ (kX10_ue l D ct ad88 Z (xt G L87) y84.2 _ b91 ((0 : Int32)) x90 y92 hc91 hk91 hy92) (cwV 2 hts gX0_writeHeader_X10_ue rfl rfl rfl (by decide +kernel) ⟨Nat.le_of_ble_eq_true rfl, Nat.le_of_ble_eq_true rfl⟩) ⟨fun a U g mk q => by obtain ⟨q0, q1, qP, qK, qD, qZ, qN⟩ := q; exact ⟨q0, q1, qP, va_K.moved (u := U) (U := U.calling g mk a) (Vm.Alike.refl U.vm) qK, qD, sF.moved (u := U) (U := U.calling g mk a) (Vm.Alike.refl U.vm) qZ, nF.same rfl qN⟩, va_recv hK hP (ci := 10) (q0 := b91) rfl (wld_o ct ad88 (xt G L87) y84.2 hc91 hk91 (by decide)), fun U hU hW => ⟨rfl, by rw [hU], by rw [hU]; exact hP, va_K.moved hW.alike hK, hD.weaken (fun _ _ _ _ => trivial), by rw [hU]; exact ((hZ.kept hS.2.1).narrow hf9).moved hW.alike, hN.warm hW⟩⟩ rfl rfl hl.1 rfl (lv_room (Nat.le_of_ble_eq_true rfl)) dX0_writeHeader_223 (room_s hT95 hbl)) hS (fun q _ h => hf9 q h) hf9 (fun ad96 t H locs ht hvm hw hB hz1 hk1 hS => ?_)
                have hn97 := hw
                obtain ⟨hP, hK9, hD9⟩ := hB
                rw [ht] at hP
                have hD := hD9.weaken (fun _ q _ h => hf9 q.1 h)
                rw [xt_xt, ← eL95] at hP hD
                refine W_cs (k := L95.length) (n := wt L95) (by rw [eL95]; exact (len_s L87 y92.1).symm) (by rw [eL95]; exact (wt_app L87 y92.1).symm) ?_
                have hT : y.1 = L95 ++ w94.1 := by rw [hT95, eL95]
                have h2 : y.2 = w94.2 := by rw [h2, ew94]
                have hl := lv_sub (l' := [(1, va_re ad88 (M.2 b3 0)), (0, .ref (ad88 a))]) hl [0, 1] rfl
                have e9 : ([(1, va_re ad88 (M.2 b3 0)), (0, .ref (ad88 a))] : List (Nat × Value)) = [(1, va_re ad96 (M.2 b3 0)), (0, .ref (ad96 a))] := (by first | rfl | simp only [agr_re hn97 hq93, hn97 a hc])
                rw [e9] at hl
                clear e9
                have hk : (xt G L95).2.1 a = 0 := by rw [eL95]; exact xt_k _ hc hk
                have hc : a < (xt G L95).1 := by rw [eL95]; exact xt_l _ hc
                have hk2 : (xt G L95).2.1 b2 = 9 := by rw [eL95]; exact xt_k _ hc2 hk2
                have hc2 : b2 < (xt G L95).1 := by rw [eL95]; exact xt_l _ hc2
                have hk3 : (xt G L95).2.1 b3 = 3 := by rw [eL95]; exact xt_k _ hc3 hk3
                have hc3 : b3 < (xt G L95).1 := by rw [eL95]; exact xt_l _ hc3
                have hk4 : (xt G L95).2.1 b4 = 13 := by rw [eL95]; exact xt_k _ hc4 hk4
                have hc4 : b4 < (xt G L95).1 := by rw [eL95]; exact xt_l _ hc4
                have hk6 : (xt G L95).2.1 b6 = 10 := by rw [eL95]; exact xt_k _ hc6 hk6
                have hc6 : b6 < (xt G L95).1 := by rw [eL95]; exact xt_l _ hc6
                have hk14 : (xt G L95).2.1 b14 = 10 := by rw [eL95]; exact xt_k _ hc14 hk14
                have hc14 : b14 < (xt G L95).1 := by rw [eL95]; exact xt_l _ hc14
                have hk21 : (xt G L95).2.1 b21 = 10 := by rw [eL95]; exact xt_k _ hc21 hk21
                have hc21 : b21 < (xt G L95).1 := by rw [eL95]; exact xt_l _ hc21
                have hk30 : (xt G L95).2.1 b30 = 10 := by rw [eL95]; exact xt_k _ hc30 hk30
                have hc30 : b30 < (xt G L95).1 := by rw [eL95]; exact xt_l _ hc30
                have hk37 : (xt G L95).2.1 b37 = 9 := by rw [eL95]; exact xt_k _ hc37 hk37
                have hc37 : b37 < (xt G L95).1 := by rw [eL95]; exact xt_l _ hc37
                have hk38 : (xt G L95).2.1 b38 = 3 := by rw [eL95]; exact xt_k _ hc38 hk38
                have hc38 : b38 < (xt G L95).1 := by rw [eL95]; exact xt_l _ hc38
                have hk44 : (xt G L95).2.1 b44 = 13 := by rw [eL95]; exact xt_k _ hc44 hk44
                have hc44 : b44 < (xt G L95).1 := by rw [eL95]; exact xt_l _ hc44
                have hk65 : (xt G L95).2.1 b65 = 9 := by rw [eL95]; exact xt_k _ hc65 hk65
                have hc65 : b65 < (xt G L95).1 := by rw [eL95]; exact xt_l _ hc65
                have hk66 : (xt G L95).2.1 b66 = 3 := by rw [eL95]; exact xt_k _ hc66 hk66
                have hc66 : b66 < (xt G L95).1 := by rw [eL95]; exact xt_l _ hc66
                have hk72 : (xt G L95).2.1 b72 = 9 := by rw [eL95]; exact xt_k _ hc72 hk72
                have hc72 : b72 < (xt G L95).1 := by rw [eL95]; exact xt_l _ hc72
                have hk73 : (xt G L95).2.1 b73 = 13 := by rw [eL95]; exact xt_k _ hc73 hk73
                have hc73 : b73 < (xt G L95).1 := by rw [eL95]; exact xt_l _ hc73
                have hk80 : (xt G L95).2.1 b80 = 13 := by rw [eL95]; exact xt_k _ hc80 hk80
                have hc80 : b80 < (xt G L95).1 := by rw [eL95]; exact xt_l _ hc80
                have hk83 : (xt G L95).2.1 b83 = 10 := by rw [eL95]; exact xt_k _ hc83 hk83
                have hc83 : b83 < (xt G L95).1 := by rw [eL95]; exact xt_l _ hc83
                have hk91 : (xt G L95).2.1 b91 = 10 := by rw [eL95]; exact xt_k _ hc91 hk91
                have hc91 : b91 < (xt G L95).1 := by rw [eL95]; exact xt_l _ hc91
                have hag := agr_t (xt_ge _ _) hag hn97
                refine lv_aloadq_n hx hb dX0_writeHeader_226 rfl (lv_at hl 0 rfl) ?_
                refine lv_bipush (v := (13 : Int32)) hx hb dX0_writeHeader_227 (by decide) ?_
                refine W_st (st' := [.int (13 : Int32), .ref (ad96 b4)]) (by rw [va_some ho4]) ?_
                obtain ⟨hvc, hF⟩ := chk_some hF
                refine va_iald hx hb hK hP b4 1 (wld_i ct ad96 (xt G L95) y92.2 hc4 hk4) rfl hvc dX0_writeHeader_229 ?_
                obtain ⟨x98, ex98, hF⟩ := ltt_some hF
                refine lv_topi (fun zx98 ezx98 => ?_)
                obtain rfl : x98 = zx98 := ex98.trans ezx98.symm
                refine lv_iconst (v := (1 : Int32)) hx hb dX0_writeHeader_230 (by decide) ?_
                obtain ⟨y99, hy99, hF⟩ := bnd_some hF
                obtain ⟨w100, hF, ew100⟩ := app_some hF
                obtain ⟨L101, eL101, hF⟩ := ltt_some hF
                have hT101 : y.1 = (L95 ++ y99.1) ++ w100.1 := by rw [hT, ew100]; simp only [List.append_assoc]
                have hbl101 : L101.length ≤ y.1.length ∧ wt L101 ≤ wt y.1 := by rw [eL101]; exact room_d hT101 hbl
                have J99 : ∀ (ad102 : Nat → Nat), agr G.1 ad ad102 → ∀ (H : Heap) (locs : List Loc) (ls : Array Slot), va_P D classes (wld ct ad102 (xt G L101) y99.2) H → va_D A (wld ct ad102 (xt G L101) y99.2) → va_S A s.heap H locs → lv_has ls 2 [(0, .ref (ad102 a))] → W p l e (headSpec wuX0_writeHeader ({ frames := 7, cells := y.1.length, slots := wt y.1, locals := 220 })).room s m ([.ref (ad a)] : List Value).toArray below meth c H locs (L101 : NN).length (wt L101) (MQ below (va_Qv (fun (u : Nat → Nat) => agr G.1 ad u) (fun u t => kE D ct u (xt G y.1) A y.2 t) A) ([.ref (ad a)] : List Value).toArray s y.1.length (wt y.1) A) (F0 m 258 ls []) := by
                  intro ad102 hag H locs ls hP hD hS hl
                  have hT : y.1 = L101 ++ w100.1 := by rw [hT101, eL101]
                  have h2 : y.2 = w100.2 := by rw [h2, ew100]
                  have hk : (xt G L101).2.1 a = 0 := by rw [eL101]; exact xt_k _ hc hk
                  have hc : a < (xt G L101).1 := by rw [eL101]; exact xt_l _ hc
                  have hk2 : (xt G L101).2.1 b2 = 9 := by rw [eL101]; exact xt_k _ hc2 hk2
                  have hc2 : b2 < (xt G L101).1 := by rw [eL101]; exact xt_l _ hc2
                  have hk3 : (xt G L101).2.1 b3 = 3 := by rw [eL101]; exact xt_k _ hc3 hk3
                  have hc3 : b3 < (xt G L101).1 := by rw [eL101]; exact xt_l _ hc3
                  have hk4 : (xt G L101).2.1 b4 = 13 := by rw [eL101]; exact xt_k _ hc4 hk4
                  have hc4 : b4 < (xt G L101).1 := by rw [eL101]; exact xt_l _ hc4
                  have hk6 : (xt G L101).2.1 b6 = 10 := by rw [eL101]; exact xt_k _ hc6 hk6
                  have hc6 : b6 < (xt G L101).1 := by rw [eL101]; exact xt_l _ hc6
                  have hk14 : (xt G L101).2.1 b14 = 10 := by rw [eL101]; exact xt_k _ hc14 hk14
                  have hc14 : b14 < (xt G L101).1 := by rw [eL101]; exact xt_l _ hc14
                  have hk21 : (xt G L101).2.1 b21 = 10 := by rw [eL101]; exact xt_k _ hc21 hk21
                  have hc21 : b21 < (xt G L101).1 := by rw [eL101]; exact xt_l _ hc21
                  have hk30 : (xt G L101).2.1 b30 = 10 := by rw [eL101]; exact xt_k _ hc30 hk30
                  have hc30 : b30 < (xt G L101).1 := by rw [eL101]; exact xt_l _ hc30
                  have hk37 : (xt G L101).2.1 b37 = 9 := by rw [eL101]; exact xt_k _ hc37 hk37
                  have hc37 : b37 < (xt G L101).1 := by rw [eL101]; exact xt_l _ hc37
                  have hk38 : (xt G L101).2.1 b38 = 3 := by rw [eL101]; exact xt_k _ hc38 hk38
                  have hc38 : b38 < (xt G L101).1 := by rw [eL101]; exact xt_l _ hc38
                  have hk44 : (xt G L101).2.1 b44 = 13 := by rw [eL101]; exact xt_k _ hc44 hk44
                  have hc44 : b44 < (xt G L101).1 := by rw [eL101]; exact xt_l _ hc44
                  have hk65 : (xt G L101).2.1 b65 = 9 := by rw [eL101]; exact xt_k _ hc65 hk65
                  have hc65 : b65 < (xt G L101).1 := by rw [eL101]; exact xt_l _ hc65
                  have hk66 : (xt G L101).2.1 b66 = 3 := by rw [eL101]; exact xt_k _ hc66 hk66
                  have hc66 : b66 < (xt G L101).1 := by rw [eL101]; exact xt_l _ hc66
                  have hk72 : (xt G L101).2.1 b72 = 9 := by rw [eL101]; exact xt_k _ hc72 hk72
                  have hc72 : b72 < (xt G L101).1 := by rw [eL101]; exact xt_l _ hc72
                  have hk73 : (xt G L101).2.1 b73 = 13 := by rw [eL101]; exact xt_k _ hc73 hk73
                  have hc73 : b73 < (xt G L101).1 := by rw [eL101]; exact xt_l _ hc73
                  have hk80 : (xt G L101).2.1 b80 = 13 := by rw [eL101]; exact xt_k _ hc80 hk80
                  have hc80 : b80 < (xt G L101).1 := by rw [eL101]; exact xt_l _ hc80
                  have hk83 : (xt G L101).2.1 b83 = 10 := by rw [eL101]; exact xt_k _ hc83 hk83
                  have hc83 : b83 < (xt G L101).1 := by rw [eL101]; exact xt_l _ hc83
                  have hk91 : (xt G L101).2.1 b91 = 10 := by rw [eL101]; exact xt_k _ hc91 hk91
                  have hc91 : b91 < (xt G L101).1 := by rw [eL101]; exact xt_l _ hc91
                  refine lv_aload_n hx hb dX0_writeHeader_258 rfl (lv_at hl 0 rfl) ?_
                  refine va_get (D := D) (ci := 0) (v := va_re ad102 (y99.2.2 a 3)) (C := RX0) (T := TX0) (N := 21) hx hb hts (mus hf_X0) hown hK hP a (wld_o ct ad102 (xt G L101) y99.2 hc hk (by decide)) rfl 3 (by decide) (hts (.fieldLink RX0 36 "VideoSuite$Coder" "work" "LVideoSuite$Work;") (mu mw_817)) (fun _ h9 => h9) rfl dX0_writeHeader_259 ?_
                  obtain ⟨b103, ho103, hc103, hk103, hF⟩ := dr_some hF
                  refine W_st (st' := [.ref (ad102 b103)]) (by rw [va_some ho103]) ?_
                  refine va_get (D := D) (ci := 9) (v := va_re ad102 (y99.2.2 b103 2)) (C := RX9) (T := TX9) (N := 20) hx hb hts (mus hf_X9) hown hK hP b103 (wld_o ct ad102 (xt G L101) y99.2 hc103 hk103 (by decide)) rfl 2 (by decide) (hts (.fieldLink RX0 85 "VideoSuite$Work" "par" "[I") (mu mw_430)) (fun _ h9 => h9) rfl dX0_writeHeader_262 ?_
                  refine lv_iconst (v := (1 : Int32)) hx hb dX0_writeHeader_265 (by decide) ?_
                  obtain ⟨b104, ho104, hc104, hk104, hF⟩ := dr_some hF
                  refine W_st (st' := [.int (1 : Int32), .ref (ad102 b104)]) (by rw [va_some ho104]) ?_
                  obtain ⟨hvc, hF⟩ := chk_some hF
                  refine va_iald hx hb hK hP b104 1 (wld_i ct ad102 (xt G L101) y99.2 hc104 hk104) rfl hvc dX0_writeHeader_266 ?_
                  obtain ⟨x105, ex105, hF⟩ := ltt_some hF
                  refine lv_topi (fun zx105 ezx105 => ?_)
                  obtain rfl : x105 = zx105 := ex105.trans ezx105.symm
                  refine lv_iconst (v := (1 : Int32)) hx hb dX0_writeHeader_267 (by decide) ?_
                  obtain ⟨y106, hy106, hF⟩ := bnd_some hF
                  obtain ⟨w107, hF, ew107⟩ := app_some hF
                  obtain ⟨L108, eL108, hF⟩ := ltt_some hF
                  have hT108 : y.1 = (L101 ++ y106.1) ++ w107.1 := by rw [hT, ew107]; simp only [List.append_assoc]
                  have hbl108 : L108.length ≤ y.1.length ∧ wt L108 ≤ wt y.1 := by rw [eL108]; exact room_d hT108 hbl
                  have J106 : ∀ (ad109 : Nat → Nat), agr G.1 ad ad109 → ∀ (H : Heap) (locs : List Loc) (ls : Array Slot), va_P D classes (wld ct ad109 (xt G L108) y106.2) H → va_D A (wld ct ad109 (xt G L108) y106.2) → va_S A s.heap H locs → lv_has ls 2 [] → W p l e (headSpec wuX0_writeHeader ({ frames := 7, cells := y.1.length, slots := wt y.1, locals := 220 })).room s m ([.ref (ad a)] : List Value).toArray below meth c H locs (L108 : NN).length (wt L108) (MQ below (va_Qv (fun (u : Nat → Nat) => agr G.1 ad u) (fun u t => kE D ct u (xt G y.1) A y.2 t) A) ([.ref (ad a)] : List Value).toArray s y.1.length (wt y.1) A) (F0 m 278 ls []) := by
                    intro ad109 hag H locs ls hP hD hS hl
                    have hT : y.1 = L108 ++ w107.1 := by rw [hT108, eL108]
                    have h2 : y.2 = w107.2 := by rw [h2, ew107]
                    have hk : (xt G L108).2.1 a = 0 := by rw [eL108]; exact xt_k _ hc hk
                    have hc : a < (xt G L108).1 := by rw [eL108]; exact xt_l _ hc
                    have hk2 : (xt G L108).2.1 b2 = 9 := by rw [eL108]; exact xt_k _ hc2 hk2
                    have hc2 : b2 < (xt G L108).1 := by rw [eL108]; exact xt_l _ hc2
                    have hk3 : (xt G L108).2.1 b3 = 3 := by rw [eL108]; exact xt_k _ hc3 hk3
                    have hc3 : b3 < (xt G L108).1 := by rw [eL108]; exact xt_l _ hc3
                    have hk4 : (xt G L108).2.1 b4 = 13 := by rw [eL108]; exact xt_k _ hc4 hk4
                    have hc4 : b4 < (xt G L108).1 := by rw [eL108]; exact xt_l _ hc4
                    have hk6 : (xt G L108).2.1 b6 = 10 := by rw [eL108]; exact xt_k _ hc6 hk6
                    have hc6 : b6 < (xt G L108).1 := by rw [eL108]; exact xt_l _ hc6
                    have hk14 : (xt G L108).2.1 b14 = 10 := by rw [eL108]; exact xt_k _ hc14 hk14
                    have hc14 : b14 < (xt G L108).1 := by rw [eL108]; exact xt_l _ hc14
                    have hk21 : (xt G L108).2.1 b21 = 10 := by rw [eL108]; exact xt_k _ hc21 hk21
                    have hc21 : b21 < (xt G L108).1 := by rw [eL108]; exact xt_l _ hc21
                    have hk30 : (xt G L108).2.1 b30 = 10 := by rw [eL108]; exact xt_k _ hc30 hk30
                    have hc30 : b30 < (xt G L108).1 := by rw [eL108]; exact xt_l _ hc30
                    have hk37 : (xt G L108).2.1 b37 = 9 := by rw [eL108]; exact xt_k _ hc37 hk37
                    have hc37 : b37 < (xt G L108).1 := by rw [eL108]; exact xt_l _ hc37
                    have hk38 : (xt G L108).2.1 b38 = 3 := by rw [eL108]; exact xt_k _ hc38 hk38
                    have hc38 : b38 < (xt G L108).1 := by rw [eL108]; exact xt_l _ hc38
                    have hk44 : (xt G L108).2.1 b44 = 13 := by rw [eL108]; exact xt_k _ hc44 hk44
                    have hc44 : b44 < (xt G L108).1 := by rw [eL108]; exact xt_l _ hc44
                    have hk65 : (xt G L108).2.1 b65 = 9 := by rw [eL108]; exact xt_k _ hc65 hk65
                    have hc65 : b65 < (xt G L108).1 := by rw [eL108]; exact xt_l _ hc65
                    have hk66 : (xt G L108).2.1 b66 = 3 := by rw [eL108]; exact xt_k _ hc66 hk66
                    have hc66 : b66 < (xt G L108).1 := by rw [eL108]; exact xt_l _ hc66
                    have hk72 : (xt G L108).2.1 b72 = 9 := by rw [eL108]; exact xt_k _ hc72 hk72
                    have hc72 : b72 < (xt G L108).1 := by rw [eL108]; exact xt_l _ hc72
                    have hk73 : (xt G L108).2.1 b73 = 13 := by rw [eL108]; exact xt_k _ hc73 hk73
                    have hc73 : b73 < (xt G L108).1 := by rw [eL108]; exact xt_l _ hc73
                    have hk80 : (xt G L108).2.1 b80 = 13 := by rw [eL108]; exact xt_k _ hc80 hk80
                    have hc80 : b80 < (xt G L108).1 := by rw [eL108]; exact xt_l _ hc80
                    have hk83 : (xt G L108).2.1 b83 = 10 := by rw [eL108]; exact xt_k _ hc83 hk83
                    have hc83 : b83 < (xt G L108).1 := by rw [eL108]; exact xt_l _ hc83
                    have hk91 : (xt G L108).2.1 b91 = 10 := by rw [eL108]; exact xt_k _ hc91 hk91
                    have hc91 : b91 < (xt G L108).1 := by rw [eL108]; exact xt_l _ hc91
                    have hk103 : (xt G L108).2.1 b103 = 9 := by rw [eL108]; exact xt_k _ hc103 hk103
                    have hc103 : b103 < (xt G L108).1 := by rw [eL108]; exact xt_l _ hc103
                    have hk104 : (xt G L108).2.1 b104 = 13 := by rw [eL108]; exact xt_k _ hc104 hk104
                    have hc104 : b104 < (xt G L108).1 := by rw [eL108]; exact xt_l _ hc104
                    obtain rfl := Option.some.inj hF
                    have e1 : y.1 = L108 := by rw [hT]; exact List.append_nil _
                    have e2 : y.2 = y106.2 := h2
                    refine W.widen (k := y.1.length) (n := wt y.1) (Nat.le_of_eq (by rw [e1])) (Nat.le_of_eq (by rw [e1])) ?_
                    exact W.vret hx hb hr (fun t ht hW => ⟨⟨ad109, rfl, hag, (by unfold kE; rw [e1, e2]; exact ⟨by rw [ht]; exact hP, va_K.moved hW.alike hK, hD⟩)⟩, hS.F ht⟩) hS.2.2 dX0_writeHeader_278
                  clear hF
                  obtain ⟨w110, hw110⟩ : ∃ z, z = y106 := ⟨_, rfl⟩
                  have hF := hy106
                  rw [← hw110] at hF
                  clear hy106
                  have hT : L108 = L101 ++ w110.1 := by rw [eL108, hw110]
                  have h2 : y106.2 = w110.2 := by rw [hw110]
                  have hbl := hbl108
                  refine lv_icmp_ne (tgt := 278) hx hb dX0_writeHeader_268 (by decide) (fun c111 => ?_) (fun c111 => ?_)
                  · rw [if_neg c111] at hF
                    obtain rfl := Option.some.inj hF
                    have e1 : L108 = L101 := by rw [hT]; exact List.append_nil _
                    have e2 : y106.2 = y99.2 := h2
                    rw [e1] at J106
                    try rw [e2] at J106
                    exact J106 _ hag _ _ _ hP hD hS (lv_sub hl [] rfl)
                  · rw [if_pos c111] at hF
                    refine lv_aload_n hx hb dX0_writeHeader_271 rfl (lv_at hl 0 rfl) ?_
                    refine va_get (D := D) (ci := 0) (v := va_re ad102 (y99.2.2 a 2)) (C := RX0) (T := TX0) (N := 21) hx hb hts (mus hf_X0) hown hK hP a (wld_o ct ad102 (xt G L101) y99.2 hc hk (by decide)) rfl 2 (by decide) (hts (.fieldLink RX0 29 "VideoSuite$Coder" "writer" "LVideoSuite$Writer;") (mu mw_815)) (fun _ h9 => h9) rfl dX0_writeHeader_272 ?_
                    obtain ⟨b112, ho112, hc112, hk112, hF⟩ := dr_some hF
                    refine W_st (st' := [.ref (ad102 b112)]) (by rw [va_some ho112]) ?_
                    obtain ⟨y113, hy113, hF⟩ := bnd_some hF
                    obtain ⟨w114, hF, ew114⟩ := app_some hF
                    obtain ⟨L115, eL115, hF⟩ := ltt_some hF
                    have hT115 : L108 = (L101 ++ y113.1) ++ w114.1 := by rw [hT, ew114]; simp only [List.append_assoc]
                    have hf9 := wA_in hD hA9 hS
                    refine va_callv (va_runV (As := []) (rest := []) ⟨hx, hb, hml, hown, hts⟩ (kX10_beginData l D ct ad102 Z (xt G L101) y99.2 _ b112 y113 hc112 hk112 hy113) (cwV 0 hts gX0_writeHeader_X10_beginData rfl rfl rfl (by decide +kernel) ⟨Nat.le_of_ble_eq_true rfl, Nat.le_of_ble_eq_true rfl⟩) ⟨fun a U g mk q => by obtain ⟨q0, q1, qP, qK, qD, qZ, qN⟩ := q; exact ⟨q0, q1, qP, va_K.moved (u := U) (U := U.calling g mk a) (Vm.Alike.refl U.vm) qK, qD, sF.moved (u := U) (U := U.calling g mk a) (Vm.Alike.refl U.vm) qZ, nF.same rfl qN⟩, va_recv hK hP (ci := 10) (q0 := b112) rfl (wld_o ct ad102 (xt G L101) y99.2 hc112 hk112 (by decide)), fun U hU hW => ⟨rfl, by rw [hU], by rw [hU]; exact hP, va_K.moved hW.alike hK, hD.weaken (fun _ _ _ _ => trivial), by rw [hU]; exact ((hZ.kept hS.2.1).narrow hf9).moved hW.alike, hN.warm hW⟩⟩ rfl rfl hl.1 rfl (lv_room (Nat.le_of_ble_eq_true rfl)) dX0_writeHeader_275 (room_s hT115 hbl)) hS (fun q _ h => hf9 q h) hf9 (fun ad116 t H locs ht hvm hw hB hz1 hk1 hS => ?_)
                    have hn117 := hw
                    obtain ⟨hP, hK9, hD9⟩ := hB
                    rw [ht] at hP
                    have hD := hD9.weaken (fun _ q _ h => hf9 q.1 h)
                    rw [xt_xt, ← eL115] at hP hD
                    refine W_cs (k := L115.length) (n := wt L115) (by rw [eL115]; exact (len_s L101 y113.1).symm) (by rw [eL115]; exact (wt_app L101 y113.1).symm) ?_
                    have hT : L108 = L115 ++ w114.1 := by rw [hT115, eL115]
                    have h2 : y106.2 = w114.2 := by rw [h2, ew114]
                    have hl := lv_sub (l' := []) hl [] rfl
                    have hk : (xt G L115).2.1 a = 0 := by rw [eL115]; exact xt_k _ hc hk
                    have hc : a < (xt G L115).1 := by rw [eL115]; exact xt_l _ hc
                    have hk2 : (xt G L115).2.1 b2 = 9 := by rw [eL115]; exact xt_k _ hc2 hk2
                    have hc2 : b2 < (xt G L115).1 := by rw [eL115]; exact xt_l _ hc2
                    have hk3 : (xt G L115).2.1 b3 = 3 := by rw [eL115]; exact xt_k _ hc3 hk3
                    have hc3 : b3 < (xt G L115).1 := by rw [eL115]; exact xt_l _ hc3
                    have hk4 : (xt G L115).2.1 b4 = 13 := by rw [eL115]; exact xt_k _ hc4 hk4
                    have hc4 : b4 < (xt G L115).1 := by rw [eL115]; exact xt_l _ hc4
                    have hk6 : (xt G L115).2.1 b6 = 10 := by rw [eL115]; exact xt_k _ hc6 hk6
                    have hc6 : b6 < (xt G L115).1 := by rw [eL115]; exact xt_l _ hc6
                    have hk14 : (xt G L115).2.1 b14 = 10 := by rw [eL115]; exact xt_k _ hc14 hk14
                    have hc14 : b14 < (xt G L115).1 := by rw [eL115]; exact xt_l _ hc14
                    have hk21 : (xt G L115).2.1 b21 = 10 := by rw [eL115]; exact xt_k _ hc21 hk21
                    have hc21 : b21 < (xt G L115).1 := by rw [eL115]; exact xt_l _ hc21
                    have hk30 : (xt G L115).2.1 b30 = 10 := by rw [eL115]; exact xt_k _ hc30 hk30
                    have hc30 : b30 < (xt G L115).1 := by rw [eL115]; exact xt_l _ hc30
                    have hk37 : (xt G L115).2.1 b37 = 9 := by rw [eL115]; exact xt_k _ hc37 hk37
                    have hc37 : b37 < (xt G L115).1 := by rw [eL115]; exact xt_l _ hc37
                    have hk38 : (xt G L115).2.1 b38 = 3 := by rw [eL115]; exact xt_k _ hc38 hk38
                    have hc38 : b38 < (xt G L115).1 := by rw [eL115]; exact xt_l _ hc38
                    have hk44 : (xt G L115).2.1 b44 = 13 := by rw [eL115]; exact xt_k _ hc44 hk44
                    have hc44 : b44 < (xt G L115).1 := by rw [eL115]; exact xt_l _ hc44
                    have hk65 : (xt G L115).2.1 b65 = 9 := by rw [eL115]; exact xt_k _ hc65 hk65
                    have hc65 : b65 < (xt G L115).1 := by rw [eL115]; exact xt_l _ hc65
                    have hk66 : (xt G L115).2.1 b66 = 3 := by rw [eL115]; exact xt_k _ hc66 hk66
                    have hc66 : b66 < (xt G L115).1 := by rw [eL115]; exact xt_l _ hc66
                    have hk72 : (xt G L115).2.1 b72 = 9 := by rw [eL115]; exact xt_k _ hc72 hk72
                    have hc72 : b72 < (xt G L115).1 := by rw [eL115]; exact xt_l _ hc72
                    have hk73 : (xt G L115).2.1 b73 = 13 := by rw [eL115]; exact xt_k _ hc73 hk73
                    have hc73 : b73 < (xt G L115).1 := by rw [eL115]; exact xt_l _ hc73
                    have hk80 : (xt G L115).2.1 b80 = 13 := by rw [eL115]; exact xt_k _ hc80 hk80
                    have hc80 : b80 < (xt G L115).1 := by rw [eL115]; exact xt_l _ hc80
                    have hk83 : (xt G L115).2.1 b83 = 10 := by rw [eL115]; exact xt_k _ hc83 hk83
                    have hc83 : b83 < (xt G L115).1 := by rw [eL115]; exact xt_l _ hc83
                    have hk91 : (xt G L115).2.1 b91 = 10 := by rw [eL115]; exact xt_k _ hc91 hk91
                    have hc91 : b91 < (xt G L115).1 := by rw [eL115]; exact xt_l _ hc91
                    have hk103 : (xt G L115).2.1 b103 = 9 := by rw [eL115]; exact xt_k _ hc103 hk103
                    have hc103 : b103 < (xt G L115).1 := by rw [eL115]; exact xt_l _ hc103
                    have hk104 : (xt G L115).2.1 b104 = 13 := by rw [eL115]; exact xt_k _ hc104 hk104
                    have hc104 : b104 < (xt G L115).1 := by rw [eL115]; exact xt_l _ hc104
                    have hk112 : (xt G L115).2.1 b112 = 10 := by rw [eL115]; exact xt_k _ hc112 hk112
                    have hc112 : b112 < (xt G L115).1 := by rw [eL115]; exact xt_l _ hc112
                    have hag := agr_t (xt_ge _ _) hag hn117
                    obtain rfl := Option.some.inj hF
                    have e1 : L108 = L115 := by rw [hT]; exact List.append_nil _
                    have e2 : y106.2 = y113.2 := h2
                    rw [e1] at J106
                    try rw [e2] at J106
                    exact J106 _ hag _ _ _ hP hD hS (lv_sub hl [] rfl)
                clear hF
                obtain ⟨w118, hw118⟩ : ∃ z, z = y99 := ⟨_, rfl⟩
                have hF := hy99
                rw [← hw118] at hF
                clear hy99
                have hT : L101 = L95 ++ w118.1 := by rw [eL101, hw118]
                have h2 : y99.2 = w118.2 := by rw [hw118]
                have hbl := hbl101
                refine lv_icmp_eq (tgt := 258) hx hb dX0_writeHeader_231 (by decide) (fun c119 => ?_) (fun c119 => ?_)
                · rw [if_pos c119] at hF
                  obtain rfl := Option.some.inj hF
                  have e1 : L101 = L95 := by rw [hT]; exact List.append_nil _
                  have e2 : y99.2 = y92.2 := h2
                  rw [e1] at J99
                  try rw [e2] at J99
                  exact J99 _ hag _ _ _ hP hD hS (lv_sub hl [1] rfl)
                · rw [if_neg c119] at hF
                  refine lv_aload_n hx hb dX0_writeHeader_234 rfl (lv_at hl 1 rfl) ?_
                  refine va_get (D := D) (ci := 0) (v := va_re ad96 (y92.2.2 a 2)) (C := RX0) (T := TX0) (N := 21) hx hb hts (mus hf_X0) hown hK hP a (wld_o ct ad96 (xt G L95) y92.2 hc hk (by decide)) rfl 2 (by decide) (hts (.fieldLink RX0 29 "VideoSuite$Coder" "writer" "LVideoSuite$Writer;") (mu mw_815)) (fun _ h9 => h9) rfl dX0_writeHeader_235 ?_
                  refine lv_iconst (v := (0 : Int32)) hx hb dX0_writeHeader_238 (by decide) ?_
                  refine lv_aloadq_n hx hb dX0_writeHeader_239 rfl (lv_at hl 0 rfl) ?_
                  refine lv_bipush (v := (14 : Int32)) hx hb dX0_writeHeader_240 (by decide) ?_
                  refine W_st (st' := [.int (14 : Int32), .ref (ad96 b4), .int (0 : Int32), va_re ad96 (y92.2.2 a 2)]) (by rw [va_some ho4]) ?_
                  obtain ⟨hvc, hF⟩ := chk_some hF
                  refine va_iald hx hb hK hP b4 1 (wld_i ct ad96 (xt G L95) y92.2 hc4 hk4) rfl hvc dX0_writeHeader_242 ?_
                  obtain ⟨x120, ex120, hF⟩ := ltt_some hF
                  refine lv_topi (fun zx120 ezx120 => ?_)
                  obtain rfl : x120 = zx120 := ex120.trans ezx120.symm
                  obtain ⟨b121, ho121, hc121, hk121, hF⟩ := dr_some hF
                  refine W_st (st' := [.int x120, .int (0 : Int32), .ref (ad96 b121)]) (by rw [va_some ho121]) ?_
                  obtain ⟨hq123, hF⟩ := chk_some hF
                  obtain ⟨y122, hy122, hF⟩ := bnd_some hF
                  obtain ⟨w124, hF, ew124⟩ := app_some hF
                  obtain ⟨L125, eL125, hF⟩ := ltt_some hF
                  have hT125 : L101 = (L95 ++ y122.1) ++ w124.1 := by rw [hT, ew124]; simp only [List.append_assoc]
                  have hf9 := wA_in hD hA9 hS
                  refine va_callv (va_runV (As := [.int (0 : Int32), .int x120]) (rest := []) ⟨hx, hb, hml, hown, hts⟩ (kX10_se l D ct ad96 Z (xt G L95) y92.2 _ b121 ((0 : Int32)) x120 y122 hc121 hk121 hy122) (cwV 2 hts gX0_writeHeader_X10_se rfl rfl rfl (by decide +kernel) ⟨Nat.le_of_ble_eq_true rfl, Nat.le_of_ble_eq_true rfl⟩) ⟨fun a U g mk q => by obtain ⟨q0, q1, qP, qK, qD, qZ, qN⟩ := q; exact ⟨q0, q1, qP, va_K.moved (u := U) (U := U.calling g mk a) (Vm.Alike.refl U.vm) qK, qD, sF.moved (u := U) (U := U.calling g mk a) (Vm.Alike.refl U.vm) qZ, nF.same rfl qN⟩, va_recv hK hP (ci := 10) (q0 := b121) rfl (wld_o ct ad96 (xt G L95) y92.2 hc121 hk121 (by decide)), fun U hU hW => ⟨rfl, by rw [hU], by rw [hU]; exact hP, va_K.moved hW.alike hK, hD.weaken (fun _ _ _ _ => trivial), by rw [hU]; exact ((hZ.kept hS.2.1).narrow hf9).moved hW.alike, hN.warm hW⟩⟩ rfl rfl hl.1 rfl (lv_room (Nat.le_of_ble_eq_true rfl)) dX0_writeHeader_243 (room_s hT125 hbl)) hS (fun q _ h => hf9 q h) hf9 (fun ad126 t H locs ht hvm hw hB hz1 hk1 hS => ?_)
                  have hn127 := hw
                  obtain ⟨hP, hK9, hD9⟩ := hB
                  rw [ht] at hP
                  have hD := hD9.weaken (fun _ q _ h => hf9 q.1 h)
                  rw [xt_xt, ← eL125] at hP hD
                  refine W_cs (k := L125.length) (n := wt L125) (by rw [eL125]; exact (len_s L95 y122.1).symm) (by rw [eL125]; exact (wt_app L95 y122.1).symm) ?_
                  have hT : L101 = L125 ++ w124.1 := by rw [hT125, eL125]
                  have h2 : y99.2 = w124.2 := by rw [h2, ew124]
                  have hl := lv_sub (l' := [(1, va_re ad96 (M.2 b3 0)), (0, .ref (ad96 a))]) hl [0, 1] rfl
                  have e9 : ([(1, va_re ad96 (M.2 b3 0)), (0, .ref (ad96 a))] : List (Nat × Value)) = [(1, va_re ad126 (M.2 b3 0)), (0, .ref (ad126 a))] := (by first | rfl | simp only [agr_re hn127 hq123, hn127 a hc])
                  rw [e9] at hl
                  clear e9
                  have hk : (xt G L125).2.1 a = 0 := by rw [eL125]; exact xt_k _ hc hk
                  have hc : a < (xt G L125).1 := by rw [eL125]; exact xt_l _ hc
                  have hk2 : (xt G L125).2.1 b2 = 9 := by rw [eL125]; exact xt_k _ hc2 hk2
                  have hc2 : b2 < (xt G L125).1 := by rw [eL125]; exact xt_l _ hc2
                  have hk3 : (xt G L125).2.1 b3 = 3 := by rw [eL125]; exact xt_k _ hc3 hk3
                  have hc3 : b3 < (xt G L125).1 := by rw [eL125]; exact xt_l _ hc3
                  have hk4 : (xt G L125).2.1 b4 = 13 := by rw [eL125]; exact xt_k _ hc4 hk4
                  have hc4 : b4 < (xt G L125).1 := by rw [eL125]; exact xt_l _ hc4
                  have hk6 : (xt G L125).2.1 b6 = 10 := by rw [eL125]; exact xt_k _ hc6 hk6
                  have hc6 : b6 < (xt G L125).1 := by rw [eL125]; exact xt_l _ hc6
                  have hk14 : (xt G L125).2.1 b14 = 10 := by rw [eL125]; exact xt_k _ hc14 hk14
                  have hc14 : b14 < (xt G L125).1 := by rw [eL125]; exact xt_l _ hc14
                  have hk21 : (xt G L125).2.1 b21 = 10 := by rw [eL125]; exact xt_k _ hc21 hk21
                  have hc21 : b21 < (xt G L125).1 := by rw [eL125]; exact xt_l _ hc21
                  have hk30 : (xt G L125).2.1 b30 = 10 := by rw [eL125]; exact xt_k _ hc30 hk30
                  have hc30 : b30 < (xt G L125).1 := by rw [eL125]; exact xt_l _ hc30
                  have hk37 : (xt G L125).2.1 b37 = 9 := by rw [eL125]; exact xt_k _ hc37 hk37
                  have hc37 : b37 < (xt G L125).1 := by rw [eL125]; exact xt_l _ hc37
                  have hk38 : (xt G L125).2.1 b38 = 3 := by rw [eL125]; exact xt_k _ hc38 hk38
                  have hc38 : b38 < (xt G L125).1 := by rw [eL125]; exact xt_l _ hc38
                  have hk44 : (xt G L125).2.1 b44 = 13 := by rw [eL125]; exact xt_k _ hc44 hk44
                  have hc44 : b44 < (xt G L125).1 := by rw [eL125]; exact xt_l _ hc44
                  have hk65 : (xt G L125).2.1 b65 = 9 := by rw [eL125]; exact xt_k _ hc65 hk65
                  have hc65 : b65 < (xt G L125).1 := by rw [eL125]; exact xt_l _ hc65
                  have hk66 : (xt G L125).2.1 b66 = 3 := by rw [eL125]; exact xt_k _ hc66 hk66
                  have hc66 : b66 < (xt G L125).1 := by rw [eL125]; exact xt_l _ hc66
                  have hk72 : (xt G L125).2.1 b72 = 9 := by rw [eL125]; exact xt_k _ hc72 hk72
                  have hc72 : b72 < (xt G L125).1 := by rw [eL125]; exact xt_l _ hc72
                  have hk73 : (xt G L125).2.1 b73 = 13 := by rw [eL125]; exact xt_k _ hc73 hk73
                  have hc73 : b73 < (xt G L125).1 := by rw [eL125]; exact xt_l _ hc73
                  have hk80 : (xt G L125).2.1 b80 = 13 := by rw [eL125]; exact xt_k _ hc80 hk80
                  have hc80 : b80 < (xt G L125).1 := by rw [eL125]; exact xt_l _ hc80
                  have hk83 : (xt G L125).2.1 b83 = 10 := by rw [eL125]; exact xt_k _ hc83 hk83
                  have hc83 : b83 < (xt G L125).1 := by rw [eL125]; exact xt_l _ hc83
                  have hk91 : (xt G L125).2.1 b91 = 10 := by rw [eL125]; exact xt_k _ hc91 hk91
                  have hc91 : b91 < (xt G L125).1 := by rw [eL125]; exact xt_l _ hc91
                  have hk121 : (xt G L125).2.1 b121 = 10 := by rw [eL125]; exact xt_k _ hc121 hk121
                  have hc121 : b121 < (xt G L125).1 := by rw [eL125]; exact xt_l _ hc121
                  have hag := agr_t (xt_ge _ _) hag hn127
                  refine lv_aload_n hx hb dX0_writeHeader_246 rfl (lv_at hl 1 rfl) ?_
                  refine va_get (D := D) (ci := 0) (v := va_re ad126 (y122.2.2 a 2)) (C := RX0) (T := TX0) (N := 21) hx hb hts (mus hf_X0) hown hK hP a (wld_o ct ad126 (xt G L125) y122.2 hc hk (by decide)) rfl 2 (by decide) (hts (.fieldLink RX0 29 "VideoSuite$Coder" "writer" "LVideoSuite$Writer;") (mu mw_815)) (fun _ h9 => h9) rfl dX0_writeHeader_247 ?_
                  refine lv_iconst (v := (0 : Int32)) hx hb dX0_writeHeader_250 (by decide) ?_
                  refine lv_aloadq_n hx hb dX0_writeHeader_251 rfl (lv_at hl 0 rfl) ?_
                  refine lv_bipush (v := (15 : Int32)) hx hb dX0_writeHeader_252 (by decide) ?_
                  refine W_st (st' := [.int (15 : Int32), .ref (ad126 b4), .int (0 : Int32), va_re ad126 (y122.2.2 a 2)]) (by rw [va_some ho4]) ?_
                  obtain ⟨hvc, hF⟩ := chk_some hF
                  refine va_iald hx hb hK hP b4 1 (wld_i ct ad126 (xt G L125) y122.2 hc4 hk4) rfl hvc dX0_writeHeader_254 ?_
                  obtain ⟨x128, ex128, hF⟩ := ltt_some hF
                  refine lv_topi (fun zx128 ezx128 => ?_)
                  obtain rfl : x128 = zx128 := ex128.trans ezx128.symm
                  obtain ⟨b129, ho129, hc129, hk129, hF⟩ := dr_some hF
                  refine W_st (st' := [.int x128, .int (0 : Int32), .ref (ad126 b129)]) (by rw [va_some ho129]) ?_
                  obtain ⟨y130, hy130, hF⟩ := bnd_some hF
                  obtain ⟨w131, hF, ew131⟩ := app_some hF
                  obtain ⟨L132, eL132, hF⟩ := ltt_some hF
                  have hT132 : L101 = (L125 ++ y130.1) ++ w131.1 := by rw [hT, ew131]; simp only [List.append_assoc]
                  have hf9 := wA_in hD hA9 hS
                  refine va_callv (va_runV (As := [.int (0 : Int32), .int x128]) (rest := []) ⟨hx, hb, hml, hown, hts⟩ (kX10_se l D ct ad126 Z (xt G L125) y122.2 _ b129 ((0 : Int32)) x128 y130 hc129 hk129 hy130) (cwV 2 hts gX0_writeHeader_X10_se rfl rfl rfl (by decide +kernel) ⟨Nat.le_of_ble_eq_true rfl, Nat.le_of_ble_eq_true rfl⟩) ⟨fun a U g mk q => by obtain ⟨q0, q1, qP, qK, qD, qZ, qN⟩ := q; exact ⟨q0, q1, qP, va_K.moved (u := U) (U := U.calling g mk a) (Vm.Alike.refl U.vm) qK, qD, sF.moved (u := U) (U := U.calling g mk a) (Vm.Alike.refl U.vm) qZ, nF.same rfl qN⟩, va_recv hK hP (ci := 10) (q0 := b129) rfl (wld_o ct ad126 (xt G L125) y122.2 hc129 hk129 (by decide)), fun U hU hW => ⟨rfl, by rw [hU], by rw [hU]; exact hP, va_K.moved hW.alike hK, hD.weaken (fun _ _ _ _ => trivial), by rw [hU]; exact ((hZ.kept hS.2.1).narrow hf9).moved hW.alike, hN.warm hW⟩⟩ rfl rfl hl.1 rfl (lv_room (Nat.le_of_ble_eq_true rfl)) dX0_writeHeader_255 (room_s hT132 hbl)) hS (fun q _ h => hf9 q h) hf9 (fun ad133 t H locs ht hvm hw hB hz1 hk1 hS => ?_)
                  have hn134 := hw
                  obtain ⟨hP, hK9, hD9⟩ := hB
                  rw [ht] at hP
                  have hD := hD9.weaken (fun _ q _ h => hf9 q.1 h)
                  rw [xt_xt, ← eL132] at hP hD
                  refine W_cs (k := L132.length) (n := wt L132) (by rw [eL132]; exact (len_s L125 y130.1).symm) (by rw [eL132]; exact (wt_app L125 y130.1).symm) ?_
                  have hT : L101 = L132 ++ w131.1 := by rw [hT132, eL132]
                  have h2 : y99.2 = w131.2 := by rw [h2, ew131]
                  have hl := lv_sub (l' := [(0, .ref (ad126 a))]) hl [1] rfl
                  have e9 : ([(0, .ref (ad126 a))] : List (Nat × Value)) = [(0, .ref (ad133 a))] := (by first | rfl | simp only [hn134 a hc])
                  rw [e9] at hl
                  clear e9
                  have hk : (xt G L132).2.1 a = 0 := by rw [eL132]; exact xt_k _ hc hk
                  have hc : a < (xt G L132).1 := by rw [eL132]; exact xt_l _ hc
                  have hk2 : (xt G L132).2.1 b2 = 9 := by rw [eL132]; exact xt_k _ hc2 hk2
                  have hc2 : b2 < (xt G L132).1 := by rw [eL132]; exact xt_l _ hc2
                  have hk3 : (xt G L132).2.1 b3 = 3 := by rw [eL132]; exact xt_k _ hc3 hk3
                  have hc3 : b3 < (xt G L132).1 := by rw [eL132]; exact xt_l _ hc3
                  have hk4 : (xt G L132).2.1 b4 = 13 := by rw [eL132]; exact xt_k _ hc4 hk4
                  have hc4 : b4 < (xt G L132).1 := by rw [eL132]; exact xt_l _ hc4
                  have hk6 : (xt G L132).2.1 b6 = 10 := by rw [eL132]; exact xt_k _ hc6 hk6
                  have hc6 : b6 < (xt G L132).1 := by rw [eL132]; exact xt_l _ hc6
                  have hk14 : (xt G L132).2.1 b14 = 10 := by rw [eL132]; exact xt_k _ hc14 hk14
                  have hc14 : b14 < (xt G L132).1 := by rw [eL132]; exact xt_l _ hc14
                  have hk21 : (xt G L132).2.1 b21 = 10 := by rw [eL132]; exact xt_k _ hc21 hk21
                  have hc21 : b21 < (xt G L132).1 := by rw [eL132]; exact xt_l _ hc21
                  have hk30 : (xt G L132).2.1 b30 = 10 := by rw [eL132]; exact xt_k _ hc30 hk30
                  have hc30 : b30 < (xt G L132).1 := by rw [eL132]; exact xt_l _ hc30
                  have hk37 : (xt G L132).2.1 b37 = 9 := by rw [eL132]; exact xt_k _ hc37 hk37
                  have hc37 : b37 < (xt G L132).1 := by rw [eL132]; exact xt_l _ hc37
                  have hk38 : (xt G L132).2.1 b38 = 3 := by rw [eL132]; exact xt_k _ hc38 hk38
                  have hc38 : b38 < (xt G L132).1 := by rw [eL132]; exact xt_l _ hc38
                  have hk44 : (xt G L132).2.1 b44 = 13 := by rw [eL132]; exact xt_k _ hc44 hk44
                  have hc44 : b44 < (xt G L132).1 := by rw [eL132]; exact xt_l _ hc44
                  have hk65 : (xt G L132).2.1 b65 = 9 := by rw [eL132]; exact xt_k _ hc65 hk65
                  have hc65 : b65 < (xt G L132).1 := by rw [eL132]; exact xt_l _ hc65
                  have hk66 : (xt G L132).2.1 b66 = 3 := by rw [eL132]; exact xt_k _ hc66 hk66
                  have hc66 : b66 < (xt G L132).1 := by rw [eL132]; exact xt_l _ hc66
                  have hk72 : (xt G L132).2.1 b72 = 9 := by rw [eL132]; exact xt_k _ hc72 hk72
                  have hc72 : b72 < (xt G L132).1 := by rw [eL132]; exact xt_l _ hc72
                  have hk73 : (xt G L132).2.1 b73 = 13 := by rw [eL132]; exact xt_k _ hc73 hk73
                  have hc73 : b73 < (xt G L132).1 := by rw [eL132]; exact xt_l _ hc73
                  have hk80 : (xt G L132).2.1 b80 = 13 := by rw [eL132]; exact xt_k _ hc80 hk80
                  have hc80 : b80 < (xt G L132).1 := by rw [eL132]; exact xt_l _ hc80
                  have hk83 : (xt G L132).2.1 b83 = 10 := by rw [eL132]; exact xt_k _ hc83 hk83
                  have hc83 : b83 < (xt G L132).1 := by rw [eL132]; exact xt_l _ hc83
                  have hk91 : (xt G L132).2.1 b91 = 10 := by rw [eL132]; exact xt_k _ hc91 hk91
                  have hc91 : b91 < (xt G L132).1 := by rw [eL132]; exact xt_l _ hc91
                  have hk121 : (xt G L132).2.1 b121 = 10 := by rw [eL132]; exact xt_k _ hc121 hk121
                  have hc121 : b121 < (xt G L132).1 := by rw [eL132]; exact xt_l _ hc121
                  have hk129 : (xt G L132).2.1 b129 = 10 := by rw [eL132]; exact xt_k _ hc129 hk129
                  have hc129 : b129 < (xt G L132).1 := by rw [eL132]; exact xt_l _ hc129
                  have hag := agr_t (xt_ge _ _) hag hn134
                  obtain rfl := Option.some.inj hF
                  have e1 : L101 = L132 := by rw [hT]; exact List.append_nil _
                  have e2 : y99.2 = y130.2 := h2
                  rw [e1] at J99
                  try rw [e2] at J99
                  exact J99 _ hag _ _ _ hP hD hS (lv_sub hl [0] rfl)
              clear hF
              obtain ⟨w135, hw135⟩ : ∃ z, z = y75 := ⟨_, rfl⟩
              have hF := hy75
              rw [← hw135] at hF
              clear hy75
              have hT : L77 = L70 ++ w135.1 := by rw [eL77, hw135]
              have h2 : y75.2 = w135.2 := by rw [hw135]
              have hbl := hbl77
              refine lv_icmp_ne (tgt := 195) hx hb dX0_writeHeader_176 (by decide) (fun c136 => ?_) (fun c136 => ?_)
              · rw [if_neg c136] at hF
                obtain rfl := Option.some.inj hF
                have e1 : L77 = L70 := by rw [hT]; exact List.append_nil _
                have e2 : y75.2 = y68.2 := h2
                rw [e1] at J75
                try rw [e2] at J75
                exact J75 _ hag _ _ _ hP hD hS (lv_sub hl [0, 1] rfl)
              · rw [if_pos c136] at hF
                refine lv_aloadq_n hx hb dX0_writeHeader_179 rfl (lv_at hl 0 rfl) ?_
                refine lv_iconst (v := (1 : Int32)) hx hb dX0_writeHeader_180 (by decide) ?_
                refine W_st (st' := [.int (1 : Int32), .ref (ad71 b4)]) (by rw [va_some ho4]) ?_
                obtain ⟨hvc, hF⟩ := chk_some hF
                refine va_iald hx hb hK hP b4 1 (wld_i ct ad71 (xt G L70) y68.2 hc4 hk4) rfl hvc dX0_writeHeader_181 ?_
                obtain ⟨x137, ex137, hF⟩ := ltt_some hF
                refine lv_topi (fun zx137 ezx137 => ?_)
                obtain rfl : x137 = zx137 := ex137.trans ezx137.symm
                refine lv_iconst (v := (2 : Int32)) hx hb dX0_writeHeader_182 (by decide) ?_
                obtain ⟨y138, hy138, hF⟩ := bnd_some hF
                obtain ⟨w139, hF, ew139⟩ := app_some hF
                obtain ⟨L140, eL140, hF⟩ := ltt_some hF
                have hT140 : L77 = (L70 ++ y138.1) ++ w139.1 := by rw [hT, ew139]; simp only [List.append_assoc]
                have hbl140 : L140.length ≤ y.1.length ∧ wt L140 ≤ wt y.1 := by rw [eL140]; exact room_d hT140 hbl
                have J138 : ∀ (ad141 : Nat → Nat), agr G.1 ad ad141 → ∀ (H : Heap) (locs : List Loc) (ls : Array Slot), va_P D classes (wld ct ad141 (xt G L140) y138.2) H → va_D A (wld ct ad141 (xt G L140) y138.2) → va_S A s.heap H locs → lv_has ls 2 [(1, va_re ad141 (M.2 b3 0)), (0, .ref (ad141 a))] → W p l e (headSpec wuX0_writeHeader ({ frames := 7, cells := y.1.length, slots := wt y.1, locals := 220 })).room s m ([.ref (ad a)] : List Value).toArray below meth c H locs (L140 : NN).length (wt L140) (MQ below (va_Qv (fun (u : Nat → Nat) => agr G.1 ad u) (fun u t => kE D ct u (xt G y.1) A y.2 t) A) ([.ref (ad a)] : List Value).toArray s y.1.length (wt y.1) A) (F0 m 195 ls []) := by
                  intro ad141 hag H locs ls hP hD hS hl
                  have hT : L77 = L140 ++ w139.1 := by rw [hT140, eL140]
                  have h2 : y75.2 = w139.2 := by rw [h2, ew139]
                  have hk : (xt G L140).2.1 a = 0 := by rw [eL140]; exact xt_k _ hc hk
                  have hc : a < (xt G L140).1 := by rw [eL140]; exact xt_l _ hc
                  have hk2 : (xt G L140).2.1 b2 = 9 := by rw [eL140]; exact xt_k _ hc2 hk2
                  have hc2 : b2 < (xt G L140).1 := by rw [eL140]; exact xt_l _ hc2
                  have hk3 : (xt G L140).2.1 b3 = 3 := by rw [eL140]; exact xt_k _ hc3 hk3
                  have hc3 : b3 < (xt G L140).1 := by rw [eL140]; exact xt_l _ hc3
                  have hk4 : (xt G L140).2.1 b4 = 13 := by rw [eL140]; exact xt_k _ hc4 hk4
                  have hc4 : b4 < (xt G L140).1 := by rw [eL140]; exact xt_l _ hc4
                  have hk6 : (xt G L140).2.1 b6 = 10 := by rw [eL140]; exact xt_k _ hc6 hk6
                  have hc6 : b6 < (xt G L140).1 := by rw [eL140]; exact xt_l _ hc6
                  have hk14 : (xt G L140).2.1 b14 = 10 := by rw [eL140]; exact xt_k _ hc14 hk14
                  have hc14 : b14 < (xt G L140).1 := by rw [eL140]; exact xt_l _ hc14
                  have hk21 : (xt G L140).2.1 b21 = 10 := by rw [eL140]; exact xt_k _ hc21 hk21
                  have hc21 : b21 < (xt G L140).1 := by rw [eL140]; exact xt_l _ hc21
                  have hk30 : (xt G L140).2.1 b30 = 10 := by rw [eL140]; exact xt_k _ hc30 hk30
                  have hc30 : b30 < (xt G L140).1 := by rw [eL140]; exact xt_l _ hc30
                  have hk37 : (xt G L140).2.1 b37 = 9 := by rw [eL140]; exact xt_k _ hc37 hk37
                  have hc37 : b37 < (xt G L140).1 := by rw [eL140]; exact xt_l _ hc37
                  have hk38 : (xt G L140).2.1 b38 = 3 := by rw [eL140]; exact xt_k _ hc38 hk38
                  have hc38 : b38 < (xt G L140).1 := by rw [eL140]; exact xt_l _ hc38
                  have hk44 : (xt G L140).2.1 b44 = 13 := by rw [eL140]; exact xt_k _ hc44 hk44
                  have hc44 : b44 < (xt G L140).1 := by rw [eL140]; exact xt_l _ hc44
                  have hk65 : (xt G L140).2.1 b65 = 9 := by rw [eL140]; exact xt_k _ hc65 hk65
                  have hc65 : b65 < (xt G L140).1 := by rw [eL140]; exact xt_l _ hc65
                  have hk66 : (xt G L140).2.1 b66 = 3 := by rw [eL140]; exact xt_k _ hc66 hk66
                  have hc66 : b66 < (xt G L140).1 := by rw [eL140]; exact xt_l _ hc66
                  have hk72 : (xt G L140).2.1 b72 = 9 := by rw [eL140]; exact xt_k _ hc72 hk72
                  have hc72 : b72 < (xt G L140).1 := by rw [eL140]; exact xt_l _ hc72
                  have hk73 : (xt G L140).2.1 b73 = 13 := by rw [eL140]; exact xt_k _ hc73 hk73
                  have hc73 : b73 < (xt G L140).1 := by rw [eL140]; exact xt_l _ hc73
                  obtain rfl := Option.some.inj hF
                  have e1 : L77 = L140 := by rw [hT]; exact List.append_nil _
                  have e2 : y75.2 = y138.2 := h2
                  rw [e1] at J75
                  try rw [e2] at J75
                  exact J75 _ hag _ _ _ hP hD hS (lv_sub hl [0, 1] rfl)
                clear hF
                obtain ⟨w142, hw142⟩ : ∃ z, z = y138 := ⟨_, rfl⟩
                have hF := hy138
                rw [← hw142] at hF
                clear hy138
                have hT : L140 = L70 ++ w142.1 := by rw [eL140, hw142]
                have h2 : y138.2 = w142.2 := by rw [hw142]
                have hbl := hbl140
                refine lv_icmp_eq (tgt := 195) hx hb dX0_writeHeader_183 (by decide) (fun c143 => ?_) (fun c143 => ?_)
                · rw [if_pos c143] at hF
                  obtain rfl := Option.some.inj hF
                  have e1 : L140 = L70 := by rw [hT]; exact List.append_nil _
                  have e2 : y138.2 = y68.2 := h2
                  rw [e1] at J138
                  try rw [e2] at J138
                  exact J138 _ hag _ _ _ hP hD hS (lv_sub hl [0, 1] rfl)
                · rw [if_neg c143] at hF
                  refine lv_aload_n hx hb dX0_writeHeader_186 rfl (lv_at hl 1 rfl) ?_
                  refine va_get (D := D) (ci := 0) (v := va_re ad71 (y68.2.2 a 2)) (C := RX0) (T := TX0) (N := 21) hx hb hts (mus hf_X0) hown hK hP a (wld_o ct ad71 (xt G L70) y68.2 hc hk (by decide)) rfl 2 (by decide) (hts (.fieldLink RX0 29 "VideoSuite$Coder" "writer" "LVideoSuite$Writer;") (mu mw_815)) (fun _ h9 => h9) rfl dX0_writeHeader_187 ?_
                  refine lv_iconst (v := (0 : Int32)) hx hb dX0_writeHeader_190 (by decide) ?_
                  refine lv_iconst (v := (0 : Int32)) hx hb dX0_writeHeader_191 (by decide) ?_
                  obtain ⟨b144, ho144, hc144, hk144, hF⟩ := dr_some hF
                  refine W_st (st' := [.int (0 : Int32), .int (0 : Int32), .ref (ad71 b144)]) (by rw [va_some ho144]) ?_
                  obtain ⟨hq146, hF⟩ := chk_some hF
                  obtain ⟨y145, hy145, hF⟩ := bnd_some hF
                  obtain ⟨w147, hF, ew147⟩ := app_some hF
                  obtain ⟨L148, eL148, hF⟩ := ltt_some hF
                  have hT148 : L140 = (L70 ++ y145.1) ++ w147.1 := by rw [hT, ew147]; simp only [List.append_assoc]
                  have hf9 := wA_in hD hA9 hS
                  refine va_callv (va_runV (As := [.int (0 : Int32), .int (0 : Int32)]) (rest := []) ⟨hx, hb, hml, hown, hts⟩ (kX10_ue l D ct ad71 Z (xt G L70) y68.2 _ b144 ((0 : Int32)) ((0 : Int32)) y145 hc144 hk144 hy145) (cwV 2 hts gX0_writeHeader_X10_ue rfl rfl rfl (by decide +kernel) ⟨Nat.le_of_ble_eq_true rfl, Nat.le_of_ble_eq_true rfl⟩) ⟨fun a U g mk q => by obtain ⟨q0, q1, qP, qK, qD, qZ, qN⟩ := q; exact ⟨q0, q1, qP, va_K.moved (u := U) (U := U.calling g mk a) (Vm.Alike.refl U.vm) qK, qD, sF.moved (u := U) (U := U.calling g mk a) (Vm.Alike.refl U.vm) qZ, nF.same rfl qN⟩, va_recv hK hP (ci := 10) (q0 := b144) rfl (wld_o ct ad71 (xt G L70) y68.2 hc144 hk144 (by decide)), fun U hU hW => ⟨rfl, by rw [hU], by rw [hU]; exact hP, va_K.moved hW.alike hK, hD.weaken (fun _ _ _ _ => trivial), by rw [hU]; exact ((hZ.kept hS.2.1).narrow hf9).moved hW.alike, hN.warm hW⟩⟩ rfl rfl hl.1 rfl (lv_room (Nat.le_of_ble_eq_true rfl)) dX0_writeHeader_192 (room_s hT148 hbl)) hS (fun q _ h => hf9 q h) hf9 (fun ad149 t H locs ht hvm hw hB hz1 hk1 hS => ?_)
                  have hn150 := hw
                  obtain ⟨hP, hK9, hD9⟩ := hB
                  rw [ht] at hP
                  have hD := hD9.weaken (fun _ q _ h => hf9 q.1 h)
                  rw [xt_xt, ← eL148] at hP hD
                  refine W_cs (k := L148.length) (n := wt L148) (by rw [eL148]; exact (len_s L70 y145.1).symm) (by rw [eL148]; exact (wt_app L70 y145.1).symm) ?_
                  have hT : L140 = L148 ++ w147.1 := by rw [hT148, eL148]
                  have h2 : y138.2 = w147.2 := by rw [h2, ew147]
                  have hl := lv_sub (l' := [(1, va_re ad71 (M.2 b3 0)), (0, .ref (ad71 a))]) hl [0, 1] rfl
                  have e9 : ([(1, va_re ad71 (M.2 b3 0)), (0, .ref (ad71 a))] : List (Nat × Value)) = [(1, va_re ad149 (M.2 b3 0)), (0, .ref (ad149 a))] := (by first | rfl | simp only [agr_re hn150 hq146, hn150 a hc])
                  rw [e9] at hl
                  clear e9
                  have hk : (xt G L148).2.1 a = 0 := by rw [eL148]; exact xt_k _ hc hk
                  have hc : a < (xt G L148).1 := by rw [eL148]; exact xt_l _ hc
                  have hk2 : (xt G L148).2.1 b2 = 9 := by rw [eL148]; exact xt_k _ hc2 hk2
                  have hc2 : b2 < (xt G L148).1 := by rw [eL148]; exact xt_l _ hc2
                  have hk3 : (xt G L148).2.1 b3 = 3 := by rw [eL148]; exact xt_k _ hc3 hk3
                  have hc3 : b3 < (xt G L148).1 := by rw [eL148]; exact xt_l _ hc3
                  have hk4 : (xt G L148).2.1 b4 = 13 := by rw [eL148]; exact xt_k _ hc4 hk4
                  have hc4 : b4 < (xt G L148).1 := by rw [eL148]; exact xt_l _ hc4
                  have hk6 : (xt G L148).2.1 b6 = 10 := by rw [eL148]; exact xt_k _ hc6 hk6
                  have hc6 : b6 < (xt G L148).1 := by rw [eL148]; exact xt_l _ hc6
                  have hk14 : (xt G L148).2.1 b14 = 10 := by rw [eL148]; exact xt_k _ hc14 hk14
                  have hc14 : b14 < (xt G L148).1 := by rw [eL148]; exact xt_l _ hc14
                  have hk21 : (xt G L148).2.1 b21 = 10 := by rw [eL148]; exact xt_k _ hc21 hk21
                  have hc21 : b21 < (xt G L148).1 := by rw [eL148]; exact xt_l _ hc21
                  have hk30 : (xt G L148).2.1 b30 = 10 := by rw [eL148]; exact xt_k _ hc30 hk30
                  have hc30 : b30 < (xt G L148).1 := by rw [eL148]; exact xt_l _ hc30
                  have hk37 : (xt G L148).2.1 b37 = 9 := by rw [eL148]; exact xt_k _ hc37 hk37
                  have hc37 : b37 < (xt G L148).1 := by rw [eL148]; exact xt_l _ hc37
                  have hk38 : (xt G L148).2.1 b38 = 3 := by rw [eL148]; exact xt_k _ hc38 hk38
                  have hc38 : b38 < (xt G L148).1 := by rw [eL148]; exact xt_l _ hc38
                  have hk44 : (xt G L148).2.1 b44 = 13 := by rw [eL148]; exact xt_k _ hc44 hk44
                  have hc44 : b44 < (xt G L148).1 := by rw [eL148]; exact xt_l _ hc44
                  have hk65 : (xt G L148).2.1 b65 = 9 := by rw [eL148]; exact xt_k _ hc65 hk65
                  have hc65 : b65 < (xt G L148).1 := by rw [eL148]; exact xt_l _ hc65
                  have hk66 : (xt G L148).2.1 b66 = 3 := by rw [eL148]; exact xt_k _ hc66 hk66
                  have hc66 : b66 < (xt G L148).1 := by rw [eL148]; exact xt_l _ hc66
                  have hk72 : (xt G L148).2.1 b72 = 9 := by rw [eL148]; exact xt_k _ hc72 hk72
                  have hc72 : b72 < (xt G L148).1 := by rw [eL148]; exact xt_l _ hc72
                  have hk73 : (xt G L148).2.1 b73 = 13 := by rw [eL148]; exact xt_k _ hc73 hk73
                  have hc73 : b73 < (xt G L148).1 := by rw [eL148]; exact xt_l _ hc73
                  have hk144 : (xt G L148).2.1 b144 = 10 := by rw [eL148]; exact xt_k _ hc144 hk144
                  have hc144 : b144 < (xt G L148).1 := by rw [eL148]; exact xt_l _ hc144
                  have hag := agr_t (xt_ge _ _) hag hn150
                  obtain rfl := Option.some.inj hF
                  have e1 : L140 = L148 := by rw [hT]; exact List.append_nil _
                  have e2 : y138.2 = y145.2 := h2
                  rw [e1] at J138
                  try rw [e2] at J138
                  exact J138 _ hag _ _ _ hP hD hS (lv_sub hl [0, 1] rfl)
            clear hF
            obtain ⟨w151, hw151⟩ : ∃ z, z = y68 := ⟨_, rfl⟩
            have hF := hy68
            rw [← hw151] at hF
            clear hy68
            have hT : L70 = L63 ++ w151.1 := by rw [eL70, hw151]
            have h2 : y68.2 = w151.2 := by rw [hw151]
            have hbl := hbl70
            refine lv_if_eq (tgt := 166) hx hb dX0_writeHeader_158 (by decide) (fun c152 => ?_) (fun c152 => ?_)
            · rw [if_pos c152] at hF
              obtain rfl := Option.some.inj hF
              have e1 : L70 = L63 := by rw [hT]; exact List.append_nil _
              have e2 : y68.2 = y67.1 := h2
              rw [e1] at J68
              try rw [e2] at J68
              exact J68 _ hag _ _ _ hP hD hS (lv_sub hl [0, 1] rfl)
            · rw [if_neg c152] at hF
              refine lv_aload_n hx hb dX0_writeHeader_161 rfl (lv_at hl 1 rfl) ?_
              refine lv_iconst (v := (0 : Int32)) hx hb dX0_writeHeader_162 (by decide) ?_
              obtain ⟨hq154, hF⟩ := chk_some hF
              obtain ⟨y153, hy153, hF⟩ := bnd_some hF
              obtain ⟨w155, hF, ew155⟩ := app_some hF
              obtain ⟨L156, eL156, hF⟩ := ltt_some hF
              have hT156 : L70 = (L63 ++ y153.1) ++ w155.1 := by rw [hT, ew155]; simp only [List.append_assoc]
              have hf9 := wA_in hD hA9 hS
              refine va_callv (va_runV (As := [.int (0 : Int32)]) (rest := []) ⟨hx, hb, hml, hown, hts⟩ (kX0_flag l D ct ad64 Z (xt G L63) y67.1 _ a ((0 : Int32)) y153 hc hk hy153) (cwV 1 hts gX0_writeHeader_X0_flag rfl rfl rfl (by decide +kernel) ⟨Nat.le_of_ble_eq_true rfl, Nat.le_of_ble_eq_true rfl⟩) ⟨fun a U g mk q => by obtain ⟨q0, q1, qP, qK, qD, qZ, qN⟩ := q; exact ⟨q0, q1, qP, va_K.moved (u := U) (U := U.calling g mk a) (Vm.Alike.refl U.vm) qK, qD, sF.moved (u := U) (U := U.calling g mk a) (Vm.Alike.refl U.vm) qZ, nF.same rfl qN⟩, va_recv hK hP (ci := 0) (q0 := a) rfl (wld_o ct ad64 (xt G L63) y67.1 hc hk (by decide)), fun U hU hW => ⟨rfl, by rw [hU], by rw [hU]; exact hP, va_K.moved hW.alike hK, hD.weaken (fun _ _ _ _ => trivial), by rw [hU]; exact ((hZ.kept hS.2.1).narrow hf9).moved hW.alike, hN.warm hW⟩⟩ rfl rfl hl.1 rfl (lv_room (Nat.le_of_ble_eq_true rfl)) dX0_writeHeader_163 (room_s hT156 hbl)) hS (fun q _ h => hf9 q h) hf9 (fun ad157 t H locs ht hvm hw hB hz1 hk1 hS => ?_)
              have hn158 := hw
              obtain ⟨hP, hK9, hD9⟩ := hB
              rw [ht] at hP
              have hD := hD9.weaken (fun _ q _ h => hf9 q.1 h)
              rw [xt_xt, ← eL156] at hP hD
              refine W_cs (k := L156.length) (n := wt L156) (by rw [eL156]; exact (len_s L63 y153.1).symm) (by rw [eL156]; exact (wt_app L63 y153.1).symm) ?_
              have hT : L70 = L156 ++ w155.1 := by rw [hT156, eL156]
              have h2 : y68.2 = w155.2 := by rw [h2, ew155]
              have hl := lv_sub (l' := [(1, va_re ad64 (M.2 b3 0)), (0, .ref (ad64 a))]) hl [0, 1] rfl
              have e9 : ([(1, va_re ad64 (M.2 b3 0)), (0, .ref (ad64 a))] : List (Nat × Value)) = [(1, va_re ad157 (M.2 b3 0)), (0, .ref (ad157 a))] := (by first | rfl | simp only [agr_re hn158 hq154, hn158 a hc])
              rw [e9] at hl
              clear e9
              have hk : (xt G L156).2.1 a = 0 := by rw [eL156]; exact xt_k _ hc hk
              have hc : a < (xt G L156).1 := by rw [eL156]; exact xt_l _ hc
              have hk2 : (xt G L156).2.1 b2 = 9 := by rw [eL156]; exact xt_k _ hc2 hk2
              have hc2 : b2 < (xt G L156).1 := by rw [eL156]; exact xt_l _ hc2
              have hk3 : (xt G L156).2.1 b3 = 3 := by rw [eL156]; exact xt_k _ hc3 hk3
              have hc3 : b3 < (xt G L156).1 := by rw [eL156]; exact xt_l _ hc3
              have hk4 : (xt G L156).2.1 b4 = 13 := by rw [eL156]; exact xt_k _ hc4 hk4
              have hc4 : b4 < (xt G L156).1 := by rw [eL156]; exact xt_l _ hc4
              have hk6 : (xt G L156).2.1 b6 = 10 := by rw [eL156]; exact xt_k _ hc6 hk6
              have hc6 : b6 < (xt G L156).1 := by rw [eL156]; exact xt_l _ hc6
              have hk14 : (xt G L156).2.1 b14 = 10 := by rw [eL156]; exact xt_k _ hc14 hk14
              have hc14 : b14 < (xt G L156).1 := by rw [eL156]; exact xt_l _ hc14
              have hk21 : (xt G L156).2.1 b21 = 10 := by rw [eL156]; exact xt_k _ hc21 hk21
              have hc21 : b21 < (xt G L156).1 := by rw [eL156]; exact xt_l _ hc21
              have hk30 : (xt G L156).2.1 b30 = 10 := by rw [eL156]; exact xt_k _ hc30 hk30
              have hc30 : b30 < (xt G L156).1 := by rw [eL156]; exact xt_l _ hc30
              have hk37 : (xt G L156).2.1 b37 = 9 := by rw [eL156]; exact xt_k _ hc37 hk37
              have hc37 : b37 < (xt G L156).1 := by rw [eL156]; exact xt_l _ hc37
              have hk38 : (xt G L156).2.1 b38 = 3 := by rw [eL156]; exact xt_k _ hc38 hk38
              have hc38 : b38 < (xt G L156).1 := by rw [eL156]; exact xt_l _ hc38
              have hk44 : (xt G L156).2.1 b44 = 13 := by rw [eL156]; exact xt_k _ hc44 hk44
              have hc44 : b44 < (xt G L156).1 := by rw [eL156]; exact xt_l _ hc44
              have hk65 : (xt G L156).2.1 b65 = 9 := by rw [eL156]; exact xt_k _ hc65 hk65
              have hc65 : b65 < (xt G L156).1 := by rw [eL156]; exact xt_l _ hc65
              have hk66 : (xt G L156).2.1 b66 = 3 := by rw [eL156]; exact xt_k _ hc66 hk66
              have hc66 : b66 < (xt G L156).1 := by rw [eL156]; exact xt_l _ hc66
              have hag := agr_t (xt_ge _ _) hag hn158
              obtain rfl := Option.some.inj hF
              have e1 : L70 = L156 := by rw [hT]; exact List.append_nil _
              have e2 : y68.2 = y153.2 := h2
              rw [e1] at J68
              try rw [e2] at J68
              exact J68 _ hag _ _ _ hP hD hS (lv_sub hl [0, 1] rfl)
          clear hF
          obtain ⟨w159, hw159⟩ : ∃ z, z = y61 := ⟨_, rfl⟩
          have hF := hy61
          rw [← hw159] at hF
          clear hy61
          have hT : L63 = L58 ++ w159.1 := by rw [eL63, hw159]
          have h2 : y61.2 = w159.2 := by rw [hw159]
          have hbl := hbl63
          refine lv_if_eq (tgt := 148) hx hb dX0_writeHeader_140 (by decide) (fun c160 => ?_) (fun c160 => ?_)
          · rw [if_pos c160] at hF
            obtain rfl := Option.some.inj hF
            have e1 : L63 = L58 := by rw [hT]; exact List.append_nil _
            have e2 : y61.2 = y56.2 := h2
            rw [e1] at J61
            try rw [e2] at J61
            exact J61 _ hag _ _ _ hP hD hS (lv_sub hl [0, 1] rfl)
          · rw [if_neg c160] at hF
            refine lv_aload_n hx hb dX0_writeHeader_143 rfl (lv_at hl 1 rfl) ?_
            refine lv_iconst (v := (0 : Int32)) hx hb dX0_writeHeader_144 (by decide) ?_
            obtain ⟨hq162, hF⟩ := chk_some hF
            obtain ⟨y161, hy161, hF⟩ := bnd_some hF
            obtain ⟨w163, hF, ew163⟩ := app_some hF
            obtain ⟨L164, eL164, hF⟩ := ltt_some hF
            have hT164 : L63 = (L58 ++ y161.1) ++ w163.1 := by rw [hT, ew163]; simp only [List.append_assoc]
            have hf9 := wA_in hD hA9 hS
            refine va_callv (va_runV (As := [.int (0 : Int32)]) (rest := []) ⟨hx, hb, hml, hown, hts⟩ (kX0_flag l D ct ad59 Z (xt G L58) y56.2 _ a ((0 : Int32)) y161 hc hk hy161) (cwV 1 hts gX0_writeHeader_X0_flag rfl rfl rfl (by decide +kernel) ⟨Nat.le_of_ble_eq_true rfl, Nat.le_of_ble_eq_true rfl⟩) ⟨fun a U g mk q => by obtain ⟨q0, q1, qP, qK, qD, qZ, qN⟩ := q; exact ⟨q0, q1, qP, va_K.moved (u := U) (U := U.calling g mk a) (Vm.Alike.refl U.vm) qK, qD, sF.moved (u := U) (U := U.calling g mk a) (Vm.Alike.refl U.vm) qZ, nF.same rfl qN⟩, va_recv hK hP (ci := 0) (q0 := a) rfl (wld_o ct ad59 (xt G L58) y56.2 hc hk (by decide)), fun U hU hW => ⟨rfl, by rw [hU], by rw [hU]; exact hP, va_K.moved hW.alike hK, hD.weaken (fun _ _ _ _ => trivial), by rw [hU]; exact ((hZ.kept hS.2.1).narrow hf9).moved hW.alike, hN.warm hW⟩⟩ rfl rfl hl.1 rfl (lv_room (Nat.le_of_ble_eq_true rfl)) dX0_writeHeader_145 (room_s hT164 hbl)) hS (fun q _ h => hf9 q h) hf9 (fun ad165 t H locs ht hvm hw hB hz1 hk1 hS => ?_)
            have hn166 := hw
            obtain ⟨hP, hK9, hD9⟩ := hB
            rw [ht] at hP
            have hD := hD9.weaken (fun _ q _ h => hf9 q.1 h)
            rw [xt_xt, ← eL164] at hP hD
            refine W_cs (k := L164.length) (n := wt L164) (by rw [eL164]; exact (len_s L58 y161.1).symm) (by rw [eL164]; exact (wt_app L58 y161.1).symm) ?_
            have hT : L63 = L164 ++ w163.1 := by rw [hT164, eL164]
            have h2 : y61.2 = w163.2 := by rw [h2, ew163]
            have hl := lv_sub (l' := [(1, va_re ad59 (M.2 b3 0)), (0, .ref (ad59 a))]) hl [0, 1] rfl
            have e9 : ([(1, va_re ad59 (M.2 b3 0)), (0, .ref (ad59 a))] : List (Nat × Value)) = [(1, va_re ad165 (M.2 b3 0)), (0, .ref (ad165 a))] := (by first | rfl | simp only [agr_re hn166 hq162, hn166 a hc])
            rw [e9] at hl
            clear e9
            have hk : (xt G L164).2.1 a = 0 := by rw [eL164]; exact xt_k _ hc hk
            have hc : a < (xt G L164).1 := by rw [eL164]; exact xt_l _ hc
            have hk2 : (xt G L164).2.1 b2 = 9 := by rw [eL164]; exact xt_k _ hc2 hk2
            have hc2 : b2 < (xt G L164).1 := by rw [eL164]; exact xt_l _ hc2
            have hk3 : (xt G L164).2.1 b3 = 3 := by rw [eL164]; exact xt_k _ hc3 hk3
            have hc3 : b3 < (xt G L164).1 := by rw [eL164]; exact xt_l _ hc3
            have hk4 : (xt G L164).2.1 b4 = 13 := by rw [eL164]; exact xt_k _ hc4 hk4
            have hc4 : b4 < (xt G L164).1 := by rw [eL164]; exact xt_l _ hc4
            have hk6 : (xt G L164).2.1 b6 = 10 := by rw [eL164]; exact xt_k _ hc6 hk6
            have hc6 : b6 < (xt G L164).1 := by rw [eL164]; exact xt_l _ hc6
            have hk14 : (xt G L164).2.1 b14 = 10 := by rw [eL164]; exact xt_k _ hc14 hk14
            have hc14 : b14 < (xt G L164).1 := by rw [eL164]; exact xt_l _ hc14
            have hk21 : (xt G L164).2.1 b21 = 10 := by rw [eL164]; exact xt_k _ hc21 hk21
            have hc21 : b21 < (xt G L164).1 := by rw [eL164]; exact xt_l _ hc21
            have hk30 : (xt G L164).2.1 b30 = 10 := by rw [eL164]; exact xt_k _ hc30 hk30
            have hc30 : b30 < (xt G L164).1 := by rw [eL164]; exact xt_l _ hc30
            have hk37 : (xt G L164).2.1 b37 = 9 := by rw [eL164]; exact xt_k _ hc37 hk37
            have hc37 : b37 < (xt G L164).1 := by rw [eL164]; exact xt_l _ hc37
            have hk38 : (xt G L164).2.1 b38 = 3 := by rw [eL164]; exact xt_k _ hc38 hk38
            have hc38 : b38 < (xt G L164).1 := by rw [eL164]; exact xt_l _ hc38
            have hk44 : (xt G L164).2.1 b44 = 13 := by rw [eL164]; exact xt_k _ hc44 hk44
            have hc44 : b44 < (xt G L164).1 := by rw [eL164]; exact xt_l _ hc44
            have hag := agr_t (xt_ge _ _) hag hn166
            obtain rfl := Option.some.inj hF
            have e1 : L63 = L164 := by rw [hT]; exact List.append_nil _
            have e2 : y61.2 = y161.2 := h2
            rw [e1] at J61
            try rw [e2] at J61
            exact J61 _ hag _ _ _ hP hD hS (lv_sub hl [0, 1] rfl)
        clear hF
        obtain ⟨w167, hw167⟩ : ∃ z, z = y56 := ⟨_, rfl⟩
        have hF := hy56
        rw [← hw167] at hF
        clear hy56
        have hT : L58 = L53 ++ w167.1 := by rw [eL58, hw167]
        have h2 : y56.2 = w167.2 := by rw [hw167]
        have hbl := hbl58
        refine lv_if_ne (tgt := 136) hx hb dX0_writeHeader_118 (by decide) (fun c168 => ?_) (fun c168 => ?_)
        · rw [if_neg c168] at hF
          obtain rfl := Option.some.inj hF
          have e1 : L58 = L53 := by rw [hT]; exact List.append_nil _
          have e2 : y56.2 = y51.2 := h2
          rw [e1] at J56
          try rw [e2] at J56
          exact J56 _ hag _ _ _ hP hD hS (lv_sub hl [0, 1] rfl)
        · rw [if_pos c168] at hF
          refine lv_aload_n hx hb dX0_writeHeader_121 rfl (lv_at hl 1 rfl) ?_
          refine va_get (D := D) (ci := 0) (v := va_re ad54 (y51.2.2 a 1)) (C := RX0) (T := TX0) (N := 21) hx hb hts (mus hf_X0) hown hK hP a (wld_o ct ad54 (xt G L53) y51.2 hc hk (by decide)) rfl 1 (by decide) (hts (.fieldLink RX0 23 "VideoSuite$Coder" "now" "[I") (mu mw_813)) (fun _ h9 => h9) rfl dX0_writeHeader_122 ?_
          refine lv_bipush (v := (20 : Int32)) hx hb dX0_writeHeader_125 (by decide) ?_
          obtain ⟨b169, ho169, hc169, hk169, hF⟩ := dr_some hF
          refine W_st (st' := [.int (20 : Int32), .ref (ad54 b169)]) (by rw [va_some ho169]) ?_
          obtain ⟨hvc, hF⟩ := chk_some hF
          refine va_iald hx hb hK hP b169 1 (wld_i ct ad54 (xt G L53) y51.2 hc169 hk169) rfl hvc dX0_writeHeader_127 ?_
          obtain ⟨x170, ex170, hF⟩ := ltt_some hF
          refine lv_topi (fun zx170 ezx170 => ?_)
          obtain rfl : x170 = zx170 := ex170.trans ezx170.symm
          refine lv_iconst (v := (1 : Int32)) hx hb dX0_writeHeader_128 (by decide) ?_
          obtain ⟨y171, hy171, hF⟩ := bnd_some hF
          obtain ⟨w172, hF, ew172⟩ := app_some hF
          obtain ⟨L173, eL173, hF⟩ := ltt_some hF
          have hT173 : L58 = (L53 ++ y171.1) ++ w172.1 := by rw [hT, ew172]; simp only [List.append_assoc]
          have hbl173 : L173.length ≤ y.1.length ∧ wt L173 ≤ wt y.1 := by rw [eL173]; exact room_d hT173 hbl
          have J171 : ∀ (ad174 : Nat → Nat), agr G.1 ad ad174 → ∀ (H : Heap) (locs : List Loc) (ls : Array Slot), va_P D classes (wld ct ad174 (xt G L173) y171.2) H → va_D A (wld ct ad174 (xt G L173) y171.2) → va_S A s.heap H locs → lv_has ls 2 [(1, va_re ad174 (M.2 b3 0)), (0, .ref (ad174 a))] → W p l e (headSpec wuX0_writeHeader ({ frames := 7, cells := y.1.length, slots := wt y.1, locals := 220 })).room s m ([.ref (ad a)] : List Value).toArray below meth c H locs (L173 : NN).length (wt L173) (MQ below (va_Qv (fun (u : Nat → Nat) => agr G.1 ad u) (fun u t => kE D ct u (xt G y.1) A y.2 t) A) ([.ref (ad a)] : List Value).toArray s y.1.length (wt y.1) A) (F0 m 136 ls []) := by
            intro ad174 hag H locs ls hP hD hS hl
            have hT : L58 = L173 ++ w172.1 := by rw [hT173, eL173]
            have h2 : y56.2 = w172.2 := by rw [h2, ew172]
            have hk : (xt G L173).2.1 a = 0 := by rw [eL173]; exact xt_k _ hc hk
            have hc : a < (xt G L173).1 := by rw [eL173]; exact xt_l _ hc
            have hk2 : (xt G L173).2.1 b2 = 9 := by rw [eL173]; exact xt_k _ hc2 hk2
            have hc2 : b2 < (xt G L173).1 := by rw [eL173]; exact xt_l _ hc2
            have hk3 : (xt G L173).2.1 b3 = 3 := by rw [eL173]; exact xt_k _ hc3 hk3
            have hc3 : b3 < (xt G L173).1 := by rw [eL173]; exact xt_l _ hc3
            have hk4 : (xt G L173).2.1 b4 = 13 := by rw [eL173]; exact xt_k _ hc4 hk4
            have hc4 : b4 < (xt G L173).1 := by rw [eL173]; exact xt_l _ hc4
            have hk6 : (xt G L173).2.1 b6 = 10 := by rw [eL173]; exact xt_k _ hc6 hk6
            have hc6 : b6 < (xt G L173).1 := by rw [eL173]; exact xt_l _ hc6
            have hk14 : (xt G L173).2.1 b14 = 10 := by rw [eL173]; exact xt_k _ hc14 hk14
            have hc14 : b14 < (xt G L173).1 := by rw [eL173]; exact xt_l _ hc14
            have hk21 : (xt G L173).2.1 b21 = 10 := by rw [eL173]; exact xt_k _ hc21 hk21
            have hc21 : b21 < (xt G L173).1 := by rw [eL173]; exact xt_l _ hc21
            have hk30 : (xt G L173).2.1 b30 = 10 := by rw [eL173]; exact xt_k _ hc30 hk30
            have hc30 : b30 < (xt G L173).1 := by rw [eL173]; exact xt_l _ hc30
            have hk37 : (xt G L173).2.1 b37 = 9 := by rw [eL173]; exact xt_k _ hc37 hk37
            have hc37 : b37 < (xt G L173).1 := by rw [eL173]; exact xt_l _ hc37
            have hk38 : (xt G L173).2.1 b38 = 3 := by rw [eL173]; exact xt_k _ hc38 hk38
            have hc38 : b38 < (xt G L173).1 := by rw [eL173]; exact xt_l _ hc38
            have hk44 : (xt G L173).2.1 b44 = 13 := by rw [eL173]; exact xt_k _ hc44 hk44
            have hc44 : b44 < (xt G L173).1 := by rw [eL173]; exact xt_l _ hc44
            have hk169 : (xt G L173).2.1 b169 = 13 := by rw [eL173]; exact xt_k _ hc169 hk169
            have hc169 : b169 < (xt G L173).1 := by rw [eL173]; exact xt_l _ hc169
            obtain rfl := Option.some.inj hF
            have e1 : L58 = L173 := by rw [hT]; exact List.append_nil _
            have e2 : y56.2 = y171.2 := h2
            rw [e1] at J56
            try rw [e2] at J56
            exact J56 _ hag _ _ _ hP hD hS (lv_sub hl [0, 1] rfl)
          clear hF
          obtain ⟨w175, hw175⟩ : ∃ z, z = y171 := ⟨_, rfl⟩
          have hF := hy171
          rw [← hw175] at hF
          clear hy171
          have hT : L173 = L53 ++ w175.1 := by rw [eL173, hw175]
          have h2 : y171.2 = w175.2 := by rw [hw175]
          have hbl := hbl173
          refine lv_icmp_ne (tgt := 136) hx hb dX0_writeHeader_129 (by decide) (fun c176 => ?_) (fun c176 => ?_)
          · rw [if_neg c176] at hF
            obtain rfl := Option.some.inj hF
            have e1 : L173 = L53 := by rw [hT]; exact List.append_nil _
            have e2 : y171.2 = y51.2 := h2
            rw [e1] at J171
            try rw [e2] at J171
            exact J171 _ hag _ _ _ hP hD hS (lv_sub hl [0, 1] rfl)
          · rw [if_pos c176] at hF
            refine lv_aload_n hx hb dX0_writeHeader_132 rfl (lv_at hl 1 rfl) ?_
            obtain ⟨hq178, hF⟩ := chk_some hF
            obtain ⟨y177, hy177, hF⟩ := bnd_some hF
            obtain ⟨w179, hF, ew179⟩ := app_some hF
            obtain ⟨L180, eL180, hF⟩ := ltt_some hF
            have hT180 : L173 = (L53 ++ y177.1) ++ w179.1 := by rw [hT, ew179]; simp only [List.append_assoc]
            have hf9 := wA_in hD hA9 hS
            refine va_callv (va_runV (As := []) (rest := []) ⟨hx, hb, hml, hown, hts⟩ (kX0_writeWeights l D ct ad54 Z (xt G L53) y51.2 _ a y177 hc hk hy177) (cwV 0 hts gX0_writeHeader_X0_writeWeights rfl rfl rfl (by decide +kernel) ⟨Nat.le_of_ble_eq_true rfl, Nat.le_of_ble_eq_true rfl⟩) ⟨fun a U g mk q => by obtain ⟨q0, q1, qP, qK, qD, qZ, qN⟩ := q; exact ⟨q0, q1, qP, va_K.moved (u := U) (U := U.calling g mk a) (Vm.Alike.refl U.vm) qK, qD, sF.moved (u := U) (U := U.calling g mk a) (Vm.Alike.refl U.vm) qZ, nF.same rfl qN⟩, va_recv hK hP (ci := 0) (q0 := a) rfl (wld_o ct ad54 (xt G L53) y51.2 hc hk (by decide)), fun U hU hW => ⟨rfl, by rw [hU], by rw [hU]; exact hP, va_K.moved hW.alike hK, hD.weaken (fun _ _ _ _ => trivial), by rw [hU]; exact ((hZ.kept hS.2.1).narrow hf9).moved hW.alike, hN.warm hW⟩⟩ rfl rfl hl.1 rfl (lv_room (Nat.le_of_ble_eq_true rfl)) dX0_writeHeader_133 (room_s hT180 hbl)) hS (fun q _ h => hf9 q h) hf9 (fun ad181 t H locs ht hvm hw hB hz1 hk1 hS => ?_)
            have hn182 := hw
            obtain ⟨hP, hK9, hD9⟩ := hB
            rw [ht] at hP
            have hD := hD9.weaken (fun _ q _ h => hf9 q.1 h)
            rw [xt_xt, ← eL180] at hP hD
            refine W_cs (k := L180.length) (n := wt L180) (by rw [eL180]; exact (len_s L53 y177.1).symm) (by rw [eL180]; exact (wt_app L53 y177.1).symm) ?_
            have hT : L173 = L180 ++ w179.1 := by rw [hT180, eL180]
            have h2 : y171.2 = w179.2 := by rw [h2, ew179]
            have hl := lv_sub (l' := [(1, va_re ad54 (M.2 b3 0)), (0, .ref (ad54 a))]) hl [0, 1] rfl
            have e9 : ([(1, va_re ad54 (M.2 b3 0)), (0, .ref (ad54 a))] : List (Nat × Value)) = [(1, va_re ad181 (M.2 b3 0)), (0, .ref (ad181 a))] := (by first | rfl | simp only [agr_re hn182 hq178, hn182 a hc])
            rw [e9] at hl
            clear e9
            have hk : (xt G L180).2.1 a = 0 := by rw [eL180]; exact xt_k _ hc hk
            have hc : a < (xt G L180).1 := by rw [eL180]; exact xt_l _ hc
            have hk2 : (xt G L180).2.1 b2 = 9 := by rw [eL180]; exact xt_k _ hc2 hk2
            have hc2 : b2 < (xt G L180).1 := by rw [eL180]; exact xt_l _ hc2
            have hk3 : (xt G L180).2.1 b3 = 3 := by rw [eL180]; exact xt_k _ hc3 hk3
            have hc3 : b3 < (xt G L180).1 := by rw [eL180]; exact xt_l _ hc3
            have hk4 : (xt G L180).2.1 b4 = 13 := by rw [eL180]; exact xt_k _ hc4 hk4
            have hc4 : b4 < (xt G L180).1 := by rw [eL180]; exact xt_l _ hc4
            have hk6 : (xt G L180).2.1 b6 = 10 := by rw [eL180]; exact xt_k _ hc6 hk6
            have hc6 : b6 < (xt G L180).1 := by rw [eL180]; exact xt_l _ hc6
            have hk14 : (xt G L180).2.1 b14 = 10 := by rw [eL180]; exact xt_k _ hc14 hk14
            have hc14 : b14 < (xt G L180).1 := by rw [eL180]; exact xt_l _ hc14
            have hk21 : (xt G L180).2.1 b21 = 10 := by rw [eL180]; exact xt_k _ hc21 hk21
            have hc21 : b21 < (xt G L180).1 := by rw [eL180]; exact xt_l _ hc21
            have hk30 : (xt G L180).2.1 b30 = 10 := by rw [eL180]; exact xt_k _ hc30 hk30
            have hc30 : b30 < (xt G L180).1 := by rw [eL180]; exact xt_l _ hc30
            have hk37 : (xt G L180).2.1 b37 = 9 := by rw [eL180]; exact xt_k _ hc37 hk37
            have hc37 : b37 < (xt G L180).1 := by rw [eL180]; exact xt_l _ hc37
            have hk38 : (xt G L180).2.1 b38 = 3 := by rw [eL180]; exact xt_k _ hc38 hk38
            have hc38 : b38 < (xt G L180).1 := by rw [eL180]; exact xt_l _ hc38
            have hk44 : (xt G L180).2.1 b44 = 13 := by rw [eL180]; exact xt_k _ hc44 hk44
            have hc44 : b44 < (xt G L180).1 := by rw [eL180]; exact xt_l _ hc44
            have hk169 : (xt G L180).2.1 b169 = 13 := by rw [eL180]; exact xt_k _ hc169 hk169
            have hc169 : b169 < (xt G L180).1 := by rw [eL180]; exact xt_l _ hc169
            have hag := agr_t (xt_ge _ _) hag hn182
            obtain rfl := Option.some.inj hF
            have e1 : L173 = L180 := by rw [hT]; exact List.append_nil _
            have e2 : y171.2 = y177.2 := h2
            rw [e1] at J171
            try rw [e2] at J171
            exact J171 _ hag _ _ _ hP hD hS (lv_sub hl [0, 1] rfl)
      clear hF
      obtain ⟨w183, hw183⟩ : ∃ z, z = y51 := ⟨_, rfl⟩
      have hF := hy51
      rw [← hw183] at hF
      clear hy51
      have hT : L53 = L48 ++ w183.1 := by rw [eL53, hw183]
      have h2 : y51.2 = w183.2 := by rw [hw183]
      have hbl := hbl53
      refine lv_icmp_eq (tgt := 115) hx hb dX0_writeHeader_108 (by decide) (fun c184 => ?_) (fun c184 => ?_)
      · rw [if_pos c184] at hF
        obtain rfl := Option.some.inj hF
        have e1 : L53 = L48 := by rw [hT]; exact List.append_nil _
        have e2 : y51.2 = y46.2 := h2
        rw [e1] at J51
        try rw [e2] at J51
        exact J51 _ hag _ _ _ hP hD hS (lv_sub hl [0, 1] rfl)
      · rw [if_neg c184] at hF
        refine lv_aload_n hx hb dX0_writeHeader_111 rfl (lv_at hl 1 rfl) ?_
        obtain ⟨hq186, hF⟩ := chk_some hF
        obtain ⟨y185, hy185, hF⟩ := bnd_some hF
        obtain ⟨w187, hF, ew187⟩ := app_some hF
        obtain ⟨L188, eL188, hF⟩ := ltt_some hF
        have hT188 : L53 = (L48 ++ y185.1) ++ w187.1 := by rw [hT, ew187]; simp only [List.append_assoc]
        have hf9 := wA_in hD hA9 hS
        refine va_callv (va_runV (As := []) (rest := []) ⟨hx, hb, hml, hown, hts⟩ (kX0_writeLists l D ct ad49 Z (xt G L48) y46.2 _ a y185 hc hk hy185) (cwV 0 hts gX0_writeHeader_X0_writeLists rfl rfl rfl (by decide +kernel) ⟨Nat.le_of_ble_eq_true rfl, Nat.le_of_ble_eq_true rfl⟩) ⟨fun a U g mk q => by obtain ⟨q0, q1, qP, qK, qD, qZ, qN⟩ := q; exact ⟨q0, q1, qP, va_K.moved (u := U) (U := U.calling g mk a) (Vm.Alike.refl U.vm) qK, qD, sF.moved (u := U) (U := U.calling g mk a) (Vm.Alike.refl U.vm) qZ, nF.same rfl qN⟩, va_recv hK hP (ci := 0) (q0 := a) rfl (wld_o ct ad49 (xt G L48) y46.2 hc hk (by decide)), fun U hU hW => ⟨rfl, by rw [hU], by rw [hU]; exact hP, va_K.moved hW.alike hK, hD.weaken (fun _ _ _ _ => trivial), by rw [hU]; exact ((hZ.kept hS.2.1).narrow hf9).moved hW.alike, hN.warm hW⟩⟩ rfl rfl hl.1 rfl (lv_room (Nat.le_of_ble_eq_true rfl)) dX0_writeHeader_112 (room_s hT188 hbl)) hS (fun q _ h => hf9 q h) hf9 (fun ad189 t H locs ht hvm hw hB hz1 hk1 hS => ?_)
        have hn190 := hw
        obtain ⟨hP, hK9, hD9⟩ := hB
        rw [ht] at hP
        have hD := hD9.weaken (fun _ q _ h => hf9 q.1 h)
        rw [xt_xt, ← eL188] at hP hD
        refine W_cs (k := L188.length) (n := wt L188) (by rw [eL188]; exact (len_s L48 y185.1).symm) (by rw [eL188]; exact (wt_app L48 y185.1).symm) ?_
        have hT : L53 = L188 ++ w187.1 := by rw [hT188, eL188]
        have h2 : y51.2 = w187.2 := by rw [h2, ew187]
        have hl := lv_sub (l' := [(1, va_re ad49 (M.2 b3 0)), (0, .ref (ad49 a))]) hl [0, 1] rfl
        have e9 : ([(1, va_re ad49 (M.2 b3 0)), (0, .ref (ad49 a))] : List (Nat × Value)) = [(1, va_re ad189 (M.2 b3 0)), (0, .ref (ad189 a))] := (by first | rfl | simp only [agr_re hn190 hq186, hn190 a hc])
        rw [e9] at hl
        clear e9
        have hk : (xt G L188).2.1 a = 0 := by rw [eL188]; exact xt_k _ hc hk
        have hc : a < (xt G L188).1 := by rw [eL188]; exact xt_l _ hc
        have hk2 : (xt G L188).2.1 b2 = 9 := by rw [eL188]; exact xt_k _ hc2 hk2
        have hc2 : b2 < (xt G L188).1 := by rw [eL188]; exact xt_l _ hc2
        have hk3 : (xt G L188).2.1 b3 = 3 := by rw [eL188]; exact xt_k _ hc3 hk3
        have hc3 : b3 < (xt G L188).1 := by rw [eL188]; exact xt_l _ hc3
        have hk4 : (xt G L188).2.1 b4 = 13 := by rw [eL188]; exact xt_k _ hc4 hk4
        have hc4 : b4 < (xt G L188).1 := by rw [eL188]; exact xt_l _ hc4
        have hk6 : (xt G L188).2.1 b6 = 10 := by rw [eL188]; exact xt_k _ hc6 hk6
        have hc6 : b6 < (xt G L188).1 := by rw [eL188]; exact xt_l _ hc6
        have hk14 : (xt G L188).2.1 b14 = 10 := by rw [eL188]; exact xt_k _ hc14 hk14
        have hc14 : b14 < (xt G L188).1 := by rw [eL188]; exact xt_l _ hc14
        have hk21 : (xt G L188).2.1 b21 = 10 := by rw [eL188]; exact xt_k _ hc21 hk21
        have hc21 : b21 < (xt G L188).1 := by rw [eL188]; exact xt_l _ hc21
        have hk30 : (xt G L188).2.1 b30 = 10 := by rw [eL188]; exact xt_k _ hc30 hk30
        have hc30 : b30 < (xt G L188).1 := by rw [eL188]; exact xt_l _ hc30
        have hk37 : (xt G L188).2.1 b37 = 9 := by rw [eL188]; exact xt_k _ hc37 hk37
        have hc37 : b37 < (xt G L188).1 := by rw [eL188]; exact xt_l _ hc37
        have hk38 : (xt G L188).2.1 b38 = 3 := by rw [eL188]; exact xt_k _ hc38 hk38
        have hc38 : b38 < (xt G L188).1 := by rw [eL188]; exact xt_l _ hc38
        have hk44 : (xt G L188).2.1 b44 = 13 := by rw [eL188]; exact xt_k _ hc44 hk44
        have hc44 : b44 < (xt G L188).1 := by rw [eL188]; exact xt_l _ hc44
        have hag := agr_t (xt_ge _ _) hag hn190
        obtain rfl := Option.some.inj hF
        have e1 : L53 = L188 := by rw [hT]; exact List.append_nil _
        have e2 : y51.2 = y185.2 := h2
        rw [e1] at J51
        try rw [e2] at J51
        exact J51 _ hag _ _ _ hP hD hS (lv_sub hl [0, 1] rfl)
    clear hF
    obtain ⟨w191, hw191⟩ : ∃ z, z = y46 := ⟨_, rfl⟩
    have hF := hy46
    rw [← hw191] at hF
    clear hy46
    have hT : L48 = L42 ++ w191.1 := by rw [eL48, hw191]
    have h2 : y46.2 = w191.2 := by rw [hw191]
    have hbl := hbl48
    refine lv_if_ne (tgt := 104) hx hb dX0_writeHeader_87 (by decide) (fun c192 => ?_) (fun c192 => ?_)
    · rw [if_neg c192] at hF
      obtain rfl := Option.some.inj hF
      have e1 : L48 = L42 := by rw [hT]; exact List.append_nil _
      have e2 : y46.2 = y40.2 := h2
      rw [e1] at J46
      try rw [e2] at J46
      exact J46 _ hag _ _ _ hP hD hS (lv_sub hl [0, 1] rfl)
    · rw [if_pos c192] at hF
      refine lv_aload_n hx hb dX0_writeHeader_90 rfl (lv_at hl 1 rfl) ?_
      refine va_get (D := D) (ci := 0) (v := va_re ad43 (y40.2.2 a 2)) (C := RX0) (T := TX0) (N := 21) hx hb hts (mus hf_X0) hown hK hP a (wld_o ct ad43 (xt G L42) y40.2 hc hk (by decide)) rfl 2 (by decide) (hts (.fieldLink RX0 29 "VideoSuite$Coder" "writer" "LVideoSuite$Writer;") (mu mw_815)) (fun _ h9 => h9) rfl dX0_writeHeader_91 ?_
      refine lv_iconst (v := (0 : Int32)) hx hb dX0_writeHeader_94 (by decide) ?_
      refine lv_aloadq_n hx hb dX0_writeHeader_95 rfl (lv_at hl 0 rfl) ?_
      refine lv_iconst (v := (5 : Int32)) hx hb dX0_writeHeader_96 (by decide) ?_
      refine W_st (st' := [.int (5 : Int32), .ref (ad43 b4), .int (0 : Int32), va_re ad43 (y40.2.2 a 2)]) (by rw [va_some ho4]) ?_
      obtain ⟨hvc, hF⟩ := chk_some hF
      refine va_iald hx hb hK hP b4 1 (wld_i ct ad43 (xt G L42) y40.2 hc4 hk4) rfl hvc dX0_writeHeader_97 ?_
      obtain ⟨x193, ex193, hF⟩ := ltt_some hF
      refine lv_topi (fun zx193 ezx193 => ?_)
      obtain rfl : x193 = zx193 := ex193.trans ezx193.symm
      refine lv_i2l (v := x193.toInt64) hx hb dX0_writeHeader_98 rfl ?_
      obtain ⟨x194, ex194, hF⟩ := ltt_some hF
      refine lv_topl (fun zx194 ezx194 => ?_)
      obtain rfl : x194 = zx194 := ex194.trans ezx194.symm
      refine lv_bipush (v := (8 : Int32)) hx hb dX0_writeHeader_99 (by decide) ?_
      obtain ⟨b195, ho195, hc195, hk195, hF⟩ := dr_some hF
      refine W_st (st' := [.int (8 : Int32), .long x194, .int (0 : Int32), .ref (ad43 b195)]) (by rw [va_some ho195]) ?_
      obtain ⟨hq197, hF⟩ := chk_some hF
      obtain ⟨y196, hy196, hF⟩ := bnd_some hF
      obtain ⟨w198, hF, ew198⟩ := app_some hF
      obtain ⟨L199, eL199, hF⟩ := ltt_some hF
      have hT199 : L48 = (L42 ++ y196.1) ++ w198.1 := by rw [hT, ew198]; simp only [List.append_assoc]
      have hf9 := wA_in hD hA9 hS
      refine va_callv (va_runV (As := [.int (0 : Int32), .long x194, .int (8 : Int32)]) (rest := []) ⟨hx, hb, hml, hown, hts⟩ (kX10_code l D ct ad43 Z (xt G L42) y40.2 _ b195 ((0 : Int32)) x194 ((8 : Int32)) y196 hc195 hk195 hy196) (cwV 3 hts gX0_writeHeader_X10_code rfl rfl rfl (by decide +kernel) ⟨Nat.le_of_ble_eq_true rfl, Nat.le_of_ble_eq_true rfl⟩) ⟨fun a U g mk q => by obtain ⟨q0, q1, qP, qK, qD, qZ, qN⟩ := q; exact ⟨q0, q1, qP, va_K.moved (u := U) (U := U.calling g mk a) (Vm.Alike.refl U.vm) qK, qD, sF.moved (u := U) (U := U.calling g mk a) (Vm.Alike.refl U.vm) qZ, nF.same rfl qN⟩, va_recv hK hP (ci := 10) (q0 := b195) rfl (wld_o ct ad43 (xt G L42) y40.2 hc195 hk195 (by decide)), fun U hU hW => ⟨rfl, by rw [hU], by rw [hU]; exact hP, va_K.moved hW.alike hK, hD.weaken (fun _ _ _ _ => trivial), by rw [hU]; exact ((hZ.kept hS.2.1).narrow hf9).moved hW.alike, hN.warm hW⟩⟩ rfl rfl hl.1 rfl (lv_room (Nat.le_of_ble_eq_true rfl)) dX0_writeHeader_101 (room_s hT199 hbl)) hS (fun q _ h => hf9 q h) hf9 (fun ad200 t H locs ht hvm hw hB hz1 hk1 hS => ?_)
      have hn201 := hw
      obtain ⟨hP, hK9, hD9⟩ := hB
      rw [ht] at hP
      have hD := hD9.weaken (fun _ q _ h => hf9 q.1 h)
      rw [xt_xt, ← eL199] at hP hD
      refine W_cs (k := L199.length) (n := wt L199) (by rw [eL199]; exact (len_s L42 y196.1).symm) (by rw [eL199]; exact (wt_app L42 y196.1).symm) ?_
      have hT : L48 = L199 ++ w198.1 := by rw [hT199, eL199]
      have h2 : y46.2 = w198.2 := by rw [h2, ew198]
      have hl := lv_sub (l' := [(1, va_re ad43 (M.2 b3 0)), (0, .ref (ad43 a))]) hl [0, 1] rfl
      have e9 : ([(1, va_re ad43 (M.2 b3 0)), (0, .ref (ad43 a))] : List (Nat × Value)) = [(1, va_re ad200 (M.2 b3 0)), (0, .ref (ad200 a))] := (by first | rfl | simp only [agr_re hn201 hq197, hn201 a hc])
      rw [e9] at hl
      clear e9
      have hk : (xt G L199).2.1 a = 0 := by rw [eL199]; exact xt_k _ hc hk
      have hc : a < (xt G L199).1 := by rw [eL199]; exact xt_l _ hc
      have hk2 : (xt G L199).2.1 b2 = 9 := by rw [eL199]; exact xt_k _ hc2 hk2
      have hc2 : b2 < (xt G L199).1 := by rw [eL199]; exact xt_l _ hc2
      have hk3 : (xt G L199).2.1 b3 = 3 := by rw [eL199]; exact xt_k _ hc3 hk3
      have hc3 : b3 < (xt G L199).1 := by rw [eL199]; exact xt_l _ hc3
      have hk4 : (xt G L199).2.1 b4 = 13 := by rw [eL199]; exact xt_k _ hc4 hk4
      have hc4 : b4 < (xt G L199).1 := by rw [eL199]; exact xt_l _ hc4
      have hk6 : (xt G L199).2.1 b6 = 10 := by rw [eL199]; exact xt_k _ hc6 hk6
      have hc6 : b6 < (xt G L199).1 := by rw [eL199]; exact xt_l _ hc6
      have hk14 : (xt G L199).2.1 b14 = 10 := by rw [eL199]; exact xt_k _ hc14 hk14
      have hc14 : b14 < (xt G L199).1 := by rw [eL199]; exact xt_l _ hc14
      have hk21 : (xt G L199).2.1 b21 = 10 := by rw [eL199]; exact xt_k _ hc21 hk21
      have hc21 : b21 < (xt G L199).1 := by rw [eL199]; exact xt_l _ hc21
      have hk30 : (xt G L199).2.1 b30 = 10 := by rw [eL199]; exact xt_k _ hc30 hk30
      have hc30 : b30 < (xt G L199).1 := by rw [eL199]; exact xt_l _ hc30
      have hk37 : (xt G L199).2.1 b37 = 9 := by rw [eL199]; exact xt_k _ hc37 hk37
      have hc37 : b37 < (xt G L199).1 := by rw [eL199]; exact xt_l _ hc37
      have hk38 : (xt G L199).2.1 b38 = 3 := by rw [eL199]; exact xt_k _ hc38 hk38
      have hc38 : b38 < (xt G L199).1 := by rw [eL199]; exact xt_l _ hc38
      have hk44 : (xt G L199).2.1 b44 = 13 := by rw [eL199]; exact xt_k _ hc44 hk44
      have hc44 : b44 < (xt G L199).1 := by rw [eL199]; exact xt_l _ hc44
      have hk195 : (xt G L199).2.1 b195 = 10 := by rw [eL199]; exact xt_k _ hc195 hk195
      have hc195 : b195 < (xt G L199).1 := by rw [eL199]; exact xt_l _ hc195
      have hag := agr_t (xt_ge _ _) hag hn201
      obtain rfl := Option.some.inj hF
      have e1 : L48 = L199 := by rw [hT]; exact List.append_nil _
      have e2 : y46.2 = y196.2 := h2
      rw [e1] at J46
      try rw [e2] at J46
      exact J46 _ hag _ _ _ hP hD hS (lv_sub hl [0, 1] rfl)
  clear hF
  obtain ⟨w202, hw202⟩ : ∃ z, z = y40 := ⟨_, rfl⟩
  have hF := hy40
  rw [← hw202] at hF
  clear hy40
  have hT : L42 = L34 ++ w202.1 := by rw [eL42, hw202]
  have h2 : y40.2 = w202.2 := by rw [hw202]
  have hbl := hbl42
  refine lv_if_eq (tgt := 80) hx hb dX0_writeHeader_66 (by decide) (fun c203 => ?_) (fun c203 => ?_)
  · rw [if_pos c203] at hF
    obtain rfl := Option.some.inj hF
    have e1 : L42 = L34 := by rw [hT]; exact List.append_nil _
    have e2 : y40.2 = y39.1 := h2
    rw [e1] at J40
    try rw [e2] at J40
    exact J40 _ hag _ _ _ hP hD hS (lv_sub hl [0, 1] rfl)
  · rw [if_neg c203] at hF
    refine lv_aload_n hx hb dX0_writeHeader_69 rfl (lv_at hl 1 rfl) ?_
    refine va_get (D := D) (ci := 0) (v := va_re ad35 (y39.1.2 a 2)) (C := RX0) (T := TX0) (N := 21) hx hb hts (mus hf_X0) hown hK hP a (wld_o ct ad35 (xt G L34) y39.1 hc hk (by decide)) rfl 2 (by decide) (hts (.fieldLink RX0 29 "VideoSuite$Coder" "writer" "LVideoSuite$Writer;") (mu mw_815)) (fun _ h9 => h9) rfl dX0_writeHeader_70 ?_
    refine lv_iconst (v := (0 : Int32)) hx hb dX0_writeHeader_73 (by decide) ?_
    refine lv_aloadq_n hx hb dX0_writeHeader_74 rfl (lv_at hl 0 rfl) ?_
    refine lv_iconst (v := (4 : Int32)) hx hb dX0_writeHeader_75 (by decide) ?_
    refine W_st (st' := [.int (4 : Int32), .ref (ad35 b4), .int (0 : Int32), va_re ad35 (y39.1.2 a 2)]) (by rw [va_some ho4]) ?_
    obtain ⟨hvc, hF⟩ := chk_some hF
    refine va_iald hx hb hK hP b4 1 (wld_i ct ad35 (xt G L34) y39.1 hc4 hk4) rfl hvc dX0_writeHeader_76 ?_
    obtain ⟨x204, ex204, hF⟩ := ltt_some hF
    refine lv_topi (fun zx204 ezx204 => ?_)
    obtain rfl : x204 = zx204 := ex204.trans ezx204.symm
    obtain ⟨b205, ho205, hc205, hk205, hF⟩ := dr_some hF
    refine W_st (st' := [.int x204, .int (0 : Int32), .ref (ad35 b205)]) (by rw [va_some ho205]) ?_
    obtain ⟨hq207, hF⟩ := chk_some hF
    obtain ⟨y206, hy206, hF⟩ := bnd_some hF
    obtain ⟨w208, hF, ew208⟩ := app_some hF
    obtain ⟨L209, eL209, hF⟩ := ltt_some hF
    have hT209 : L42 = (L34 ++ y206.1) ++ w208.1 := by rw [hT, ew208]; simp only [List.append_assoc]
    have hf9 := wA_in hD hA9 hS
    refine va_callv (va_runV (As := [.int (0 : Int32), .int x204]) (rest := []) ⟨hx, hb, hml, hown, hts⟩ (kX10_ue l D ct ad35 Z (xt G L34) y39.1 _ b205 ((0 : Int32)) x204 y206 hc205 hk205 hy206) (cwV 2 hts gX0_writeHeader_X10_ue rfl rfl rfl (by decide +kernel) ⟨Nat.le_of_ble_eq_true rfl, Nat.le_of_ble_eq_true rfl⟩) ⟨fun a U g mk q => by obtain ⟨q0, q1, qP, qK, qD, qZ, qN⟩ := q; exact ⟨q0, q1, qP, va_K.moved (u := U) (U := U.calling g mk a) (Vm.Alike.refl U.vm) qK, qD, sF.moved (u := U) (U := U.calling g mk a) (Vm.Alike.refl U.vm) qZ, nF.same rfl qN⟩, va_recv hK hP (ci := 10) (q0 := b205) rfl (wld_o ct ad35 (xt G L34) y39.1 hc205 hk205 (by decide)), fun U hU hW => ⟨rfl, by rw [hU], by rw [hU]; exact hP, va_K.moved hW.alike hK, hD.weaken (fun _ _ _ _ => trivial), by rw [hU]; exact ((hZ.kept hS.2.1).narrow hf9).moved hW.alike, hN.warm hW⟩⟩ rfl rfl hl.1 rfl (lv_room (Nat.le_of_ble_eq_true rfl)) dX0_writeHeader_77 (room_s hT209 hbl)) hS (fun q _ h => hf9 q h) hf9 (fun ad210 t H locs ht hvm hw hB hz1 hk1 hS => ?_)
    have hn211 := hw
    obtain ⟨hP, hK9, hD9⟩ := hB
    rw [ht] at hP
    have hD := hD9.weaken (fun _ q _ h => hf9 q.1 h)
    rw [xt_xt, ← eL209] at hP hD
    refine W_cs (k := L209.length) (n := wt L209) (by rw [eL209]; exact (len_s L34 y206.1).symm) (by rw [eL209]; exact (wt_app L34 y206.1).symm) ?_
    have hT : L42 = L209 ++ w208.1 := by rw [hT209, eL209]
    have h2 : y40.2 = w208.2 := by rw [h2, ew208]
    have hl := lv_sub (l' := [(1, va_re ad35 (M.2 b3 0)), (0, .ref (ad35 a))]) hl [0, 1] rfl
    have e9 : ([(1, va_re ad35 (M.2 b3 0)), (0, .ref (ad35 a))] : List (Nat × Value)) = [(1, va_re ad210 (M.2 b3 0)), (0, .ref (ad210 a))] := (by first | rfl | simp only [agr_re hn211 hq207, hn211 a hc])
    rw [e9] at hl
    clear e9
    have hk : (xt G L209).2.1 a = 0 := by rw [eL209]; exact xt_k _ hc hk
    have hc : a < (xt G L209).1 := by rw [eL209]; exact xt_l _ hc
    have hk2 : (xt G L209).2.1 b2 = 9 := by rw [eL209]; exact xt_k _ hc2 hk2
    have hc2 : b2 < (xt G L209).1 := by rw [eL209]; exact xt_l _ hc2
    have hk3 : (xt G L209).2.1 b3 = 3 := by rw [eL209]; exact xt_k _ hc3 hk3
    have hc3 : b3 < (xt G L209).1 := by rw [eL209]; exact xt_l _ hc3
    have hk4 : (xt G L209).2.1 b4 = 13 := by rw [eL209]; exact xt_k _ hc4 hk4
    have hc4 : b4 < (xt G L209).1 := by rw [eL209]; exact xt_l _ hc4
    have hk6 : (xt G L209).2.1 b6 = 10 := by rw [eL209]; exact xt_k _ hc6 hk6
    have hc6 : b6 < (xt G L209).1 := by rw [eL209]; exact xt_l _ hc6
    have hk14 : (xt G L209).2.1 b14 = 10 := by rw [eL209]; exact xt_k _ hc14 hk14
    have hc14 : b14 < (xt G L209).1 := by rw [eL209]; exact xt_l _ hc14
    have hk21 : (xt G L209).2.1 b21 = 10 := by rw [eL209]; exact xt_k _ hc21 hk21
    have hc21 : b21 < (xt G L209).1 := by rw [eL209]; exact xt_l _ hc21
    have hk30 : (xt G L209).2.1 b30 = 10 := by rw [eL209]; exact xt_k _ hc30 hk30
    have hc30 : b30 < (xt G L209).1 := by rw [eL209]; exact xt_l _ hc30
    have hk37 : (xt G L209).2.1 b37 = 9 := by rw [eL209]; exact xt_k _ hc37 hk37
    have hc37 : b37 < (xt G L209).1 := by rw [eL209]; exact xt_l _ hc37
    have hk38 : (xt G L209).2.1 b38 = 3 := by rw [eL209]; exact xt_k _ hc38 hk38
    have hc38 : b38 < (xt G L209).1 := by rw [eL209]; exact xt_l _ hc38
    have hk205 : (xt G L209).2.1 b205 = 10 := by rw [eL209]; exact xt_k _ hc205 hk205
    have hc205 : b205 < (xt G L209).1 := by rw [eL209]; exact xt_l _ hc205
    have hag := agr_t (xt_ge _ _) hag hn211
    obtain rfl := Option.some.inj hF
    have e1 : L42 = L209 := by rw [hT]; exact List.append_nil _
    have e2 : y40.2 = y206.2 := h2
    rw [e1] at J40
    try rw [e2] at J40
    exact J40 _ hag _ _ _ hP hD hS (lv_sub hl [0, 1] rfl)
set_option maxRecDepth 20000 in
theorem gX0_writeParameters_X10_beginUnit : GoodIn wuX0_writeParameters (wsV RX0 154 RX10 yX10_beginUnit wuX10_beginUnit) := gu_V mw_1135 mw_1136 mw_1137 mw_176 mw_1138
set_option maxRecDepth 20000 in
set_option maxRecDepth 20000 in
theorem gX0_writeParameters_X10_ue : GoodIn wuX0_writeParameters (wsV RX0 162 RX10 yX10_ue wuX10_ue) := gu_V mw_1169 mw_1170 mw_1171 mw_176 mw_1172
set_option maxRecDepth 20000 in
set_option maxRecDepth 20000 in
theorem gX0_writeParameters_X0_flag : GoodIn wuX0_writeParameters (wsV RX0 166 RX0 yX0_flag wuX0_flag) := gu_V mw_1177 mw_1179 mw_28 mw_175 mw_1180
set_option maxRecDepth 20000 in
set_option maxRecDepth 20000 in
theorem gX0_writeParameters_X10_code : GoodIn wuX0_writeParameters (wsV RX0 150 RX10 yX10_code wuX10_code) := gu_V mw_1140 mw_1141 mw_1142 mw_176 mw_1143
set_option maxRecDepth 20000 in
set_option maxRecDepth 20000 in
theorem gX0_writeParameters_X10_se : GoodIn wuX0_writeParameters (wsV RX0 169 RX10 yX10_se wuX10_se) := gu_V mw_1181 mw_1182 mw_1183 mw_176 mw_1184
set_option maxRecDepth 20000 in
set_option maxRecDepth 20000 in
theorem gX0_writeParameters_X10_endUnit : GoodIn wuX0_writeParameters (wsV RX0 172 RX10 yX10_endUnit wuX10_endUnit) := gu_V mw_1188 mw_1189 mw_1190 mw_176 mw_1191
theorem dX0_writeParameters_0 : decode cX0_writeParameters 0 = .ok (.aload_n 0, 1) := by decide +kernel
theorem dX0_writeParameters_1 : decode cX0_writeParameters 1 = .ok (.getfield 29, 3) := by decide +kernel
theorem dX0_writeParameters_4 : decode cX0_writeParameters 4 = .ok (.bipush 104, 2) := by decide +kernel
theorem dX0_writeParameters_6 : decode cX0_writeParameters 6 = .ok (.invokevirtual 154, 3) := by decide +kernel
theorem dX0_writeParameters_9 : decode cX0_writeParameters 9 = .ok (.aload_n 0, 1) := by decide +kernel
theorem dX0_writeParameters_10 : decode cX0_writeParameters 10 = .ok (.getfield 29, 3) := by decide +kernel
theorem dX0_writeParameters_13 : decode cX0_writeParameters 13 = .ok (.iconst 0, 1) := by decide +kernel
theorem dX0_writeParameters_14 : decode cX0_writeParameters 14 = .ok (.iconst 0, 1) := by decide +kernel
theorem dX0_writeParameters_15 : decode cX0_writeParameters 15 = .ok (.invokevirtual 162, 3) := by decide +kernel
theorem dX0_writeParameters_18 : decode cX0_writeParameters 18 = .ok (.aload_n 0, 1) := by decide +kernel
theorem dX0_writeParameters_19 : decode cX0_writeParameters 19 = .ok (.getfield 29, 3) := by decide +kernel
theorem dX0_writeParameters_22 : decode cX0_writeParameters 22 = .ok (.iconst 0, 1) := by decide +kernel
theorem dX0_writeParameters_23 : decode cX0_writeParameters 23 = .ok (.iconst 0, 1) := by decide +kernel
theorem dX0_writeParameters_24 : decode cX0_writeParameters 24 = .ok (.invokevirtual 162, 3) := by decide +kernel
theorem dX0_writeParameters_27 : decode cX0_writeParameters 27 = .ok (.aload_n 0, 1) := by decide +kernel
theorem dX0_writeParameters_28 : decode cX0_writeParameters 28 = .ok (.aload_n 0, 1) := by decide +kernel
theorem dX0_writeParameters_29 : decode cX0_writeParameters 29 = .ok (.getfield 23, 3) := by decide +kernel
theorem dX0_writeParameters_32 : decode cX0_writeParameters 32 = .ok (.iconst 2, 1) := by decide +kernel
theorem dX0_writeParameters_33 : decode cX0_writeParameters 33 = .ok (.iaload, 1) := by decide +kernel
theorem dX0_writeParameters_34 : decode cX0_writeParameters 34 = .ok (.invokevirtual 166, 3) := by decide +kernel
theorem dX0_writeParameters_37 : decode cX0_writeParameters 37 = .ok (.aload_n 0, 1) := by decide +kernel
theorem dX0_writeParameters_38 : decode cX0_writeParameters 38 = .ok (.iconst 0, 1) := by decide +kernel
theorem dX0_writeParameters_39 : decode cX0_writeParameters 39 = .ok (.invokevirtual 166, 3) := by decide +kernel
theorem dX0_writeParameters_42 : decode cX0_writeParameters 42 = .ok (.aload_n 0, 1) := by decide +kernel
theorem dX0_writeParameters_43 : decode cX0_writeParameters 43 = .ok (.getfield 29, 3) := by decide +kernel
theorem dX0_writeParameters_46 : decode cX0_writeParameters 46 = .ok (.iconst 0, 1) := by decide +kernel
theorem dX0_writeParameters_47 : decode cX0_writeParameters 47 = .ok (.iconst 0, 1) := by decide +kernel
theorem dX0_writeParameters_48 : decode cX0_writeParameters 48 = .ok (.invokevirtual 162, 3) := by decide +kernel
theorem dX0_writeParameters_51 : decode cX0_writeParameters 51 = .ok (.aload_n 0, 1) := by decide +kernel
theorem dX0_writeParameters_52 : decode cX0_writeParameters 52 = .ok (.getfield 29, 3) := by decide +kernel
theorem dX0_writeParameters_55 : decode cX0_writeParameters 55 = .ok (.iconst 0, 1) := by decide +kernel
theorem dX0_writeParameters_56 : decode cX0_writeParameters 56 = .ok (.aload_n 0, 1) := by decide +kernel
theorem dX0_writeParameters_57 : decode cX0_writeParameters 57 = .ok (.getfield 23, 3) := by decide +kernel
theorem dX0_writeParameters_60 : decode cX0_writeParameters 60 = .ok (.bipush 7, 2) := by decide +kernel
theorem dX0_writeParameters_62 : decode cX0_writeParameters 62 = .ok (.iaload, 1) := by decide +kernel
theorem dX0_writeParameters_63 : decode cX0_writeParameters 63 = .ok (.iconst 1, 1) := by decide +kernel
theorem dX0_writeParameters_64 : decode cX0_writeParameters 64 = .ok (.isub, 1) := by decide +kernel
theorem dX0_writeParameters_65 : decode cX0_writeParameters 65 = .ok (.invokevirtual 162, 3) := by decide +kernel
theorem dX0_writeParameters_68 : decode cX0_writeParameters 68 = .ok (.aload_n 0, 1) := by decide +kernel
theorem dX0_writeParameters_69 : decode cX0_writeParameters 69 = .ok (.getfield 29, 3) := by decide +kernel
theorem dX0_writeParameters_72 : decode cX0_writeParameters 72 = .ok (.iconst 0, 1) := by decide +kernel
theorem dX0_writeParameters_73 : decode cX0_writeParameters 73 = .ok (.iconst 0, 1) := by decide +kernel
theorem dX0_writeParameters_74 : decode cX0_writeParameters 74 = .ok (.invokevirtual 162, 3) := by decide +kernel
theorem dX0_writeParameters_77 : decode cX0_writeParameters 77 = .ok (.aload_n 0, 1) := by decide +kernel
theorem dX0_writeParameters_78 : decode cX0_writeParameters 78 = .ok (.aload_n 0, 1) := by decide +kernel
theorem dX0_writeParameters_79 : decode cX0_writeParameters 79 = .ok (.getfield 23, 3) := by decide +kernel
theorem dX0_writeParameters_82 : decode cX0_writeParameters 82 = .ok (.bipush 20, 2) := by decide +kernel
theorem dX0_writeParameters_84 : decode cX0_writeParameters 84 = .ok (.iaload, 1) := by decide +kernel
theorem dX0_writeParameters_85 : decode cX0_writeParameters 85 = .ok (.invokevirtual 166, 3) := by decide +kernel
theorem dX0_writeParameters_88 : decode cX0_writeParameters 88 = .ok (.aload_n 0, 1) := by decide +kernel
theorem dX0_writeParameters_89 : decode cX0_writeParameters 89 = .ok (.getfield 29, 3) := by decide +kernel
theorem dX0_writeParameters_92 : decode cX0_writeParameters 92 = .ok (.iconst 0, 1) := by decide +kernel
theorem dX0_writeParameters_93 : decode cX0_writeParameters 93 = .ok (.aload_n 0, 1) := by decide +kernel
theorem dX0_writeParameters_94 : decode cX0_writeParameters 94 = .ok (.getfield 23, 3) := by decide +kernel
theorem dX0_writeParameters_97 : decode cX0_writeParameters 97 = .ok (.bipush 21, 2) := by decide +kernel
theorem dX0_writeParameters_99 : decode cX0_writeParameters 99 = .ok (.iaload, 1) := by decide +kernel
theorem dX0_writeParameters_100 : decode cX0_writeParameters 100 = .ok (.i2l, 1) := by decide +kernel
theorem dX0_writeParameters_101 : decode cX0_writeParameters 101 = .ok (.iconst 2, 1) := by decide +kernel
theorem dX0_writeParameters_102 : decode cX0_writeParameters 102 = .ok (.invokevirtual 150, 3) := by decide +kernel
theorem dX0_writeParameters_105 : decode cX0_writeParameters 105 = .ok (.aload_n 0, 1) := by decide +kernel
theorem dX0_writeParameters_106 : decode cX0_writeParameters 106 = .ok (.getfield 29, 3) := by decide +kernel
theorem dX0_writeParameters_109 : decode cX0_writeParameters 109 = .ok (.iconst 0, 1) := by decide +kernel
theorem dX0_writeParameters_110 : decode cX0_writeParameters 110 = .ok (.aload_n 0, 1) := by decide +kernel
theorem dX0_writeParameters_111 : decode cX0_writeParameters 111 = .ok (.getfield 23, 3) := by decide +kernel
theorem dX0_writeParameters_114 : decode cX0_writeParameters 114 = .ok (.iconst 3, 1) := by decide +kernel
theorem dX0_writeParameters_115 : decode cX0_writeParameters 115 = .ok (.iaload, 1) := by decide +kernel
theorem dX0_writeParameters_116 : decode cX0_writeParameters 116 = .ok (.bipush 26, 2) := by decide +kernel
theorem dX0_writeParameters_118 : decode cX0_writeParameters 118 = .ok (.isub, 1) := by decide +kernel
theorem dX0_writeParameters_119 : decode cX0_writeParameters 119 = .ok (.invokevirtual 169, 3) := by decide +kernel
theorem dX0_writeParameters_122 : decode cX0_writeParameters 122 = .ok (.aload_n 0, 1) := by decide +kernel
theorem dX0_writeParameters_123 : decode cX0_writeParameters 123 = .ok (.getfield 29, 3) := by decide +kernel
theorem dX0_writeParameters_126 : decode cX0_writeParameters 126 = .ok (.iconst 0, 1) := by decide +kernel
theorem dX0_writeParameters_127 : decode cX0_writeParameters 127 = .ok (.iconst 0, 1) := by decide +kernel
theorem dX0_writeParameters_128 : decode cX0_writeParameters 128 = .ok (.invokevirtual 169, 3) := by decide +kernel
theorem dX0_writeParameters_131 : decode cX0_writeParameters 131 = .ok (.aload_n 0, 1) := by decide +kernel
theorem dX0_writeParameters_132 : decode cX0_writeParameters 132 = .ok (.getfield 29, 3) := by decide +kernel
theorem dX0_writeParameters_135 : decode cX0_writeParameters 135 = .ok (.iconst 0, 1) := by decide +kernel
theorem dX0_writeParameters_136 : decode cX0_writeParameters 136 = .ok (.aload_n 0, 1) := by decide +kernel
theorem dX0_writeParameters_137 : decode cX0_writeParameters 137 = .ok (.getfield 23, 3) := by decide +kernel
theorem dX0_writeParameters_140 : decode cX0_writeParameters 140 = .ok (.bipush 23, 2) := by decide +kernel
theorem dX0_writeParameters_142 : decode cX0_writeParameters 142 = .ok (.iaload, 1) := by decide +kernel
theorem dX0_writeParameters_143 : decode cX0_writeParameters 143 = .ok (.invokevirtual 169, 3) := by decide +kernel
theorem dX0_writeParameters_146 : decode cX0_writeParameters 146 = .ok (.aload_n 0, 1) := by decide +kernel
theorem dX0_writeParameters_147 : decode cX0_writeParameters 147 = .ok (.iconst 1, 1) := by decide +kernel
theorem dX0_writeParameters_148 : decode cX0_writeParameters 148 = .ok (.invokevirtual 166, 3) := by decide +kernel
theorem dX0_writeParameters_151 : decode cX0_writeParameters 151 = .ok (.aload_n 0, 1) := by decide +kernel
theorem dX0_writeParameters_152 : decode cX0_writeParameters 152 = .ok (.aload_n 0, 1) := by decide +kernel
theorem dX0_writeParameters_153 : decode cX0_writeParameters 153 = .ok (.getfield 23, 3) := by decide +kernel
theorem dX0_writeParameters_156 : decode cX0_writeParameters 156 = .ok (.bipush 19, 2) := by decide +kernel
theorem dX0_writeParameters_158 : decode cX0_writeParameters 158 = .ok (.iaload, 1) := by decide +kernel
theorem dX0_writeParameters_159 : decode cX0_writeParameters 159 = .ok (.invokevirtual 166, 3) := by decide +kernel
theorem dX0_writeParameters_162 : decode cX0_writeParameters 162 = .ok (.aload_n 0, 1) := by decide +kernel
theorem dX0_writeParameters_163 : decode cX0_writeParameters 163 = .ok (.iconst 0, 1) := by decide +kernel
theorem dX0_writeParameters_164 : decode cX0_writeParameters 164 = .ok (.invokevirtual 166, 3) := by decide +kernel
theorem dX0_writeParameters_167 : decode cX0_writeParameters 167 = .ok (.aload_n 0, 1) := by decide +kernel
theorem dX0_writeParameters_168 : decode cX0_writeParameters 168 = .ok (.getfield 29, 3) := by decide +kernel
theorem dX0_writeParameters_171 : decode cX0_writeParameters 171 = .ok (.iconst 0, 1) := by decide +kernel
theorem dX0_writeParameters_172 : decode cX0_writeParameters 172 = .ok (.invokevirtual 172, 3) := by decide +kernel
theorem dX0_writeParameters_175 : decode cX0_writeParameters 175 = .ok (.return_, 1) := by decide +kernel
noncomputable def FX0_writeParameters (G : GG) (M : DD) (a : Nat)  : Option (NN × DD) :=
  dr (xt G []) 10 ((M.2 a 2)) fun b2 =>
  bnd (FX10_beginUnit (xt G []) M b2 ((104 : Int32))) fun y3 =>
  dr (xt G []) 10 ((y3.2 a 2)) fun b4 =>
  bnd (FX10_ue (xt G []) y3 b4 ((0 : Int32)) ((0 : Int32))) fun y5 =>
  app y5.1 <|
  ltt ([] ++ y5.1) fun L7 =>
  dr (xt G L7) 10 ((y5.2.2 a 2)) fun b10 =>
  bnd (FX10_ue (xt G L7) y5.2 b10 ((0 : Int32)) ((0 : Int32))) fun y11 =>
  app y11.1 <|
  ltt (L7 ++ y11.1) fun L13 =>
  dr (xt G L13) 13 ((y11.2.2 a 1)) fun b16 =>
  chk (¬ (((2 : Int32)) < 0 ∨ (xt G L13).2.2 b16 ≤ ((2 : Int32)).toNatClampNeg)) <|
  ltt (y11.2.1 b16 ((2 : Int32)).toNatClampNeg) fun x17 =>
  bnd (FX0_flag (xt G L13) y11.2 a x17) fun y18 =>
  app y18.1 <|
  ltt (L13 ++ y18.1) fun L20 =>
  bnd (FX0_flag (xt G L20) y18.2 a ((0 : Int32))) fun y23 =>
  app y23.1 <|
  ltt (L20 ++ y23.1) fun L25 =>
  dr (xt G L25) 10 ((y23.2.2 a 2)) fun b28 =>
  bnd (FX10_ue (xt G L25) y23.2 b28 ((0 : Int32)) ((0 : Int32))) fun y29 =>
  app y29.1 <|
  ltt (L25 ++ y29.1) fun L31 =>
  dr (xt G L31) 13 ((y29.2.2 a 1)) fun b34 =>
  chk (¬ (((7 : Int32)) < 0 ∨ (xt G L31).2.2 b34 ≤ ((7 : Int32)).toNatClampNeg)) <|
  ltt (y29.2.1 b34 ((7 : Int32)).toNatClampNeg) fun x35 =>
  ltt ((x35 - ((1 : Int32)))) fun x36 =>
  dr (xt G L31) 10 ((y29.2.2 a 2)) fun b37 =>
  bnd (FX10_ue (xt G L31) y29.2 b37 ((0 : Int32)) x36) fun y38 =>
  app y38.1 <|
  ltt (L31 ++ y38.1) fun L40 =>
  dr (xt G L40) 10 ((y38.2.2 a 2)) fun b43 =>
  bnd (FX10_ue (xt G L40) y38.2 b43 ((0 : Int32)) ((0 : Int32))) fun y44 =>
  app y44.1 <|
  ltt (L40 ++ y44.1) fun L46 =>
  dr (xt G L46) 13 ((y44.2.2 a 1)) fun b49 =>
  chk (¬ (((20 : Int32)) < 0 ∨ (xt G L46).2.2 b49 ≤ ((20 : Int32)).toNatClampNeg)) <|
  ltt (y44.2.1 b49 ((20 : Int32)).toNatClampNeg) fun x50 =>
  bnd (FX0_flag (xt G L46) y44.2 a x50) fun y51 =>
  app y51.1 <|
  ltt (L46 ++ y51.1) fun L53 =>
  dr (xt G L53) 13 ((y51.2.2 a 1)) fun b56 =>
  chk (¬ (((21 : Int32)) < 0 ∨ (xt G L53).2.2 b56 ≤ ((21 : Int32)).toNatClampNeg)) <|
  ltt (y51.2.1 b56 ((21 : Int32)).toNatClampNeg) fun x57 =>
  ltt (x57.toInt64) fun x58 =>
  dr (xt G L53) 10 ((y51.2.2 a 2)) fun b59 =>
  bnd (FX10_code (xt G L53) y51.2 b59 ((0 : Int32)) x58 ((2 : Int32))) fun y60 =>
  app y60.1 <|
  ltt (L53 ++ y60.1) fun L62 =>
  dr (xt G L62) 13 ((y60.2.2 a 1)) fun b65 =>
  chk (¬ (((3 : Int32)) < 0 ∨ (xt G L62).2.2 b65 ≤ ((3 : Int32)).toNatClampNeg)) <|
  ltt (y60.2.1 b65 ((3 : Int32)).toNatClampNeg) fun x66 =>
  ltt ((x66 - ((26 : Int32)))) fun x67 =>
  dr (xt G L62) 10 ((y60.2.2 a 2)) fun b68 =>
  bnd (FX10_se (xt G L62) y60.2 b68 ((0 : Int32)) x67) fun y69 =>
  app y69.1 <|
  ltt (L62 ++ y69.1) fun L71 =>
  dr (xt G L71) 10 ((y69.2.2 a 2)) fun b74 =>
  bnd (FX10_se (xt G L71) y69.2 b74 ((0 : Int32)) ((0 : Int32))) fun y75 =>
  app y75.1 <|
  ltt (L71 ++ y75.1) fun L77 =>
  dr (xt G L77) 13 ((y75.2.2 a 1)) fun b80 =>
  chk (¬ (((23 : Int32)) < 0 ∨ (xt G L77).2.2 b80 ≤ ((23 : Int32)).toNatClampNeg)) <|
  ltt (y75.2.1 b80 ((23 : Int32)).toNatClampNeg) fun x81 =>
  dr (xt G L77) 10 ((y75.2.2 a 2)) fun b82 =>
  bnd (FX10_se (xt G L77) y75.2 b82 ((0 : Int32)) x81) fun y83 =>
  app y83.1 <|
  ltt (L77 ++ y83.1) fun L85 =>
  bnd (FX0_flag (xt G L85) y83.2 a ((1 : Int32))) fun y88 =>
  app y88.1 <|
  ltt (L85 ++ y88.1) fun L90 =>
  dr (xt G L90) 13 ((y88.2.2 a 1)) fun b93 =>
  chk (¬ (((19 : Int32)) < 0 ∨ (xt G L90).2.2 b93 ≤ ((19 : Int32)).toNatClampNeg)) <|
  ltt (y88.2.1 b93 ((19 : Int32)).toNatClampNeg) fun x94 =>
  bnd (FX0_flag (xt G L90) y88.2 a x94) fun y95 =>
  app y95.1 <|
  ltt (L90 ++ y95.1) fun L97 =>
  bnd (FX0_flag (xt G L97) y95.2 a ((0 : Int32))) fun y100 =>
  app y100.1 <|
  ltt (L97 ++ y100.1) fun L102 =>
  dr (xt G L102) 10 ((y100.2.2 a 2)) fun b105 =>
  bnd (FX10_endUnit (xt G L102) y100.2 b105 ((0 : Int32))) fun y106 =>
  app y106.1 <|
  ltt (L102 ++ y106.1) fun L108 =>
  some ([], y106.2)
set_option maxHeartbeats 4000000 in
set_option maxRecDepth 100000 in
theorem kX0_writeParameters (l : Launch) (D : va_G) (ct : CT) (ad : Nat → Nat) (Z : Nat → Nat) (G : GG) (M : DD) (sz : Nat) (a : Nat)  (y : NN × DD) (hc : a < G.1) (hk : G.2.1 a = 0) (hF : FX0_writeParameters G M a  = some y) : Met l yX0_writeParameters wuX0_writeParameters ({ frames := 6, cells := y.1.length, slots := wt y.1, locals := 198 }) (va_Pc [.ref (ad a)] (kB D ct ad Z G M sz)) (va_Qv (fun (u : Nat → Nat) => agr G.1 ad u) (fun u t => kE D ct u (xt G y.1) (wA ad G sz) y.2 t) (wA ad G sz)) y.1.length (wt y.1) (wA ad G sz) := by
  refine Met.ofW (cc := cX0_writeParameters) (maxL := 1) (ret := none) (by decide) rfl ?_
  intro p e s m args below meth c s₁ B hml hv
  obtain ⟨rfl, hsz, hP, hK, hD0, hZ, hN⟩ := hv
  have hx := B.exec
  have hb := B.bytes
  have hr := B.returns
  have hts := atoms_spec (ws := wuX0_writeParameters) B.pre
  have hown : s.vm.findClass RX0 = some m.cls := findClass_of_methodNamed B.named
  have hlocks := B.notSynchronized
  subst hsz
  have hD := wD_self (sz := s.heap.size) hD0
  have hA9 : ∀ q, s.heap.size ≤ q → wA ad G s.heap.size q := fun q h => Or.inr h
  generalize hAe : wA ad G s.heap.size = A at hD hA9 hZ ⊢
  have hS : va_S A s.heap s.heap [] := va_S.rf
  have hl := lv_entry ([.ref (ad a)]) (n := 1) (Nat.le_of_ble_eq_true rfl)
  rw [lg_entry_eq]
  generalize (lg_sl ([.ref (ad a)]) ++ List.replicate (1 - (lg_sl ([.ref (ad a)])).length) Slot.unset).toArray = ls at hl ⊢
  have hl : lv_has ls 1 [(0, .ref (ad a))] := hl
  unfold FX0_writeParameters at hF
  rw [← wld_0 ct ad G M] at hP hD
  have hk := xt_k0 hc hk
  have hc := xt_l0 hc
  have hag := agr_rf G.1 ad
  obtain ⟨w0, hw0⟩ : ∃ z, z = y := ⟨_, rfl⟩
  rw [← hw0] at hF
  have hT : y.1 = [] ++ w0.1 := by rw [hw0]; rfl
  have h2 : y.2 = w0.2 := by rw [hw0]
  have hbl : y.1.length ≤ y.1.length ∧ wt y.1 ≤ wt y.1 := ⟨Nat.le_refl _, Nat.le_refl _⟩
  refine lv_aload_n hx hb dX0_writeParameters_0 rfl (lv_at hl 0 rfl) ?_
  refine va_get (D := D) (ci := 0) (v := va_re ad (M.2 a 2)) (C := RX0) (T := TX0) (N := 21) hx hb hts (mus hf_X0) hown hK hP a (wld_o ct ad (xt G []) M hc hk (by decide)) rfl 2 (by decide) (hts (.fieldLink RX0 29 "VideoSuite$Coder" "writer" "LVideoSuite$Writer;") (mu mw_815)) (fun _ h9 => h9) rfl dX0_writeParameters_1 ?_
  refine lv_bipush (v := (104 : Int32)) hx hb dX0_writeParameters_4 (by decide) ?_
  obtain ⟨b2, ho2, hc2, hk2, hF⟩ := dr_some hF
  refine W_st (st' := [.int (104 : Int32), .ref (ad b2)]) (by rw [va_some ho2]) ?_
  obtain ⟨y3, hy3, hF⟩ := bnd_some hF
  have hf9 := wA_in hD hA9 hS
  refine va_callv (va_runV (As := [.int (104 : Int32)]) (rest := []) ⟨hx, hb, hml, hown, hts⟩ (kX10_beginUnit l D ct ad Z (xt G []) M s.heap.size b2 ((104 : Int32)) y3 hc2 hk2 hy3) (cwV 1 hts gX0_writeParameters_X10_beginUnit rfl rfl rfl (by decide +kernel) ⟨Nat.le_of_ble_eq_true rfl, Nat.le_of_ble_eq_true rfl⟩) ⟨fun a U g mk q => by obtain ⟨q0, q1, qP, qK, qD, qZ, qN⟩ := q; exact ⟨q0, q1, qP, va_K.moved (u := U) (U := U.calling g mk a) (Vm.Alike.refl U.vm) qK, qD, sF.moved (u := U) (U := U.calling g mk a) (Vm.Alike.refl U.vm) qZ, nF.same rfl qN⟩, va_recv hK hP (ci := 10) (q0 := b2) rfl (wld_o ct ad (xt G []) M hc2 hk2 (by decide)), fun U hU hW => ⟨rfl, by rw [hU], by rw [hU]; exact hP, va_K.moved hW.alike hK, hD.weaken (fun _ _ _ _ => trivial), by rw [hU]; exact ((hZ.kept hS.2.1).narrow hf9).moved hW.alike, hN.warm hW⟩⟩ rfl rfl hl.1 rfl (lv_room (Nat.le_of_ble_eq_true rfl)) dX0_writeParameters_6 (room_d hT hbl)) hS (fun q _ h => hf9 q h) hf9 (fun u t H locs ht hvm hw hB hz1 hk1 hS => ?_)
  obtain ⟨hP, hK9, hD9⟩ := hB
  rw [ht] at hP
  refine W_cs (k := ([] : NN).length) (n := wt []) rfl rfl ?_
  have hD := hD9.weaken (fun _ q _ h => hf9 q.1 h)
  refine lv_aload_n hx hb dX0_writeParameters_9 rfl (lv_at hl 0 rfl) ?_
  refine va_get (D := D) (ci := 0) (v := va_re ad (y3.2 a 2)) (C := RX0) (T := TX0) (N := 21) hx hb hts (mus hf_X0) hown hK hP a (wld_o ct ad (xt G []) y3 hc hk (by decide)) rfl 2 (by decide) (hts (.fieldLink RX0 29 "VideoSuite$Coder" "writer" "LVideoSuite$Writer;") (mu mw_815)) (fun _ h9 => h9) rfl dX0_writeParameters_10 ?_
  refine lv_iconst (v := (0 : Int32)) hx hb dX0_writeParameters_13 (by decide) ?_
  refine lv_iconst (v := (0 : Int32)) hx hb dX0_writeParameters_14 (by decide) ?_
  obtain ⟨b4, ho4, hc4, hk4, hF⟩ := dr_some hF
  refine W_st (st' := [.int (0 : Int32), .int (0 : Int32), .ref (ad b4)]) (by rw [va_some ho4]) ?_
  obtain ⟨y5, hy5, hF⟩ := bnd_some hF
  obtain ⟨w6, hF, ew6⟩ := app_some hF
  obtain ⟨L7, eL7, hF⟩ := ltt_some hF
  have hT7 : y.1 = ([] ++ y5.1) ++ w6.1 := by rw [hT, ew6]; simp only [List.append_assoc]
  have hf9 := wA_in hD hA9 hS
  refine va_callv (va_runV (As := [.int (0 : Int32), .int (0 : Int32)]) (rest := []) ⟨hx, hb, hml, hown, hts⟩ (kX10_ue l D ct ad Z (xt G []) y3 _ b4 ((0 : Int32)) ((0 : Int32)) y5 hc4 hk4 hy5) (cwV 2 hts gX0_writeParameters_X10_ue rfl rfl rfl (by decide +kernel) ⟨Nat.le_of_ble_eq_true rfl, Nat.le_of_ble_eq_true rfl⟩) ⟨fun a U g mk q => by obtain ⟨q0, q1, qP, qK, qD, qZ, qN⟩ := q; exact ⟨q0, q1, qP, va_K.moved (u := U) (U := U.calling g mk a) (Vm.Alike.refl U.vm) qK, qD, sF.moved (u := U) (U := U.calling g mk a) (Vm.Alike.refl U.vm) qZ, nF.same rfl qN⟩, va_recv hK hP (ci := 10) (q0 := b4) rfl (wld_o ct ad (xt G []) y3 hc4 hk4 (by decide)), fun U hU hW => ⟨rfl, by rw [hU], by rw [hU]; exact hP, va_K.moved hW.alike hK, hD.weaken (fun _ _ _ _ => trivial), by rw [hU]; exact ((hZ.kept hS.2.1).narrow hf9).moved hW.alike, hN.warm hW⟩⟩ rfl rfl hl.1 rfl (lv_room (Nat.le_of_ble_eq_true rfl)) dX0_writeParameters_15 (room_s hT7 hbl)) hS (fun q _ h => hf9 q h) hf9 (fun ad8 t H locs ht hvm hw hB hz1 hk1 hS => ?_)
  have hn9 := hw
  obtain ⟨hP, hK9, hD9⟩ := hB
  rw [ht] at hP
  have hD := hD9.weaken (fun _ q _ h => hf9 q.1 h)
  rw [xt_xt, ← eL7] at hP hD
  refine W_cs (k := L7.length) (n := wt L7) (by rw [eL7]; exact (len_s [] y5.1).symm) (by rw [eL7]; exact (wt_app [] y5.1).symm) ?_
  have hT : y.1 = L7 ++ w6.1 := by rw [hT7, eL7]
  have h2 : y.2 = w6.2 := by rw [h2, ew6]
  have hl := lv_sub (l' := [(0, .ref (ad a))]) hl [0] rfl
  have e9 : ([(0, .ref (ad a))] : List (Nat × Value)) = [(0, .ref (ad8 a))] := (by first | rfl | simp only [hn9 a hc])
  rw [e9] at hl
  clear e9
  have hk : (xt G L7).2.1 a = 0 := by rw [eL7]; exact xt_k _ hc hk
  have hc : a < (xt G L7).1 := by rw [eL7]; exact xt_l _ hc
  have hk2 : (xt G L7).2.1 b2 = 10 := by rw [eL7]; exact xt_k _ hc2 hk2
  have hc2 : b2 < (xt G L7).1 := by rw [eL7]; exact xt_l _ hc2
  have hk4 : (xt G L7).2.1 b4 = 10 := by rw [eL7]; exact xt_k _ hc4 hk4
  have hc4 : b4 < (xt G L7).1 := by rw [eL7]; exact xt_l _ hc4
  have hag := agr_t (xt_ge _ _) hag hn9
  refine lv_aload_n hx hb dX0_writeParameters_18 rfl (lv_at hl 0 rfl) ?_
  refine va_get (D := D) (ci := 0) (v := va_re ad8 (y5.2.2 a 2)) (C := RX0) (T := TX0) (N := 21) hx hb hts (mus hf_X0) hown hK hP a (wld_o ct ad8 (xt G L7) y5.2 hc hk (by decide)) rfl 2 (by decide) (hts (.fieldLink RX0 29 "VideoSuite$Coder" "writer" "LVideoSuite$Writer;") (mu mw_815)) (fun _ h9 => h9) rfl dX0_writeParameters_19 ?_
  refine lv_iconst (v := (0 : Int32)) hx hb dX0_writeParameters_22 (by decide) ?_
  refine lv_iconst (v := (0 : Int32)) hx hb dX0_writeParameters_23 (by decide) ?_
  obtain ⟨b10, ho10, hc10, hk10, hF⟩ := dr_some hF
  refine W_st (st' := [.int (0 : Int32), .int (0 : Int32), .ref (ad8 b10)]) (by rw [va_some ho10]) ?_
  obtain ⟨y11, hy11, hF⟩ := bnd_some hF
  obtain ⟨w12, hF, ew12⟩ := app_some hF
  obtain ⟨L13, eL13, hF⟩ := ltt_some hF
  have hT13 : y.1 = (L7 ++ y11.1) ++ w12.1 := by rw [hT, ew12]; simp only [List.append_assoc]
  have hf9 := wA_in hD hA9 hS
  refine va_callv (va_runV (As := [.int (0 : Int32), .int (0 : Int32)]) (rest := []) ⟨hx, hb, hml, hown, hts⟩ (kX10_ue l D ct ad8 Z (xt G L7) y5.2 _ b10 ((0 : Int32)) ((0 : Int32)) y11 hc10 hk10 hy11) (cwV 2 hts gX0_writeParameters_X10_ue rfl rfl rfl (by decide +kernel) ⟨Nat.le_of_ble_eq_true rfl, Nat.le_of_ble_eq_true rfl⟩) ⟨fun a U g mk q => by obtain ⟨q0, q1, qP, qK, qD, qZ, qN⟩ := q; exact ⟨q0, q1, qP, va_K.moved (u := U) (U := U.calling g mk a) (Vm.Alike.refl U.vm) qK, qD, sF.moved (u := U) (U := U.calling g mk a) (Vm.Alike.refl U.vm) qZ, nF.same rfl qN⟩, va_recv hK hP (ci := 10) (q0 := b10) rfl (wld_o ct ad8 (xt G L7) y5.2 hc10 hk10 (by decide)), fun U hU hW => ⟨rfl, by rw [hU], by rw [hU]; exact hP, va_K.moved hW.alike hK, hD.weaken (fun _ _ _ _ => trivial), by rw [hU]; exact ((hZ.kept hS.2.1).narrow hf9).moved hW.alike, hN.warm hW⟩⟩ rfl rfl hl.1 rfl (lv_room (Nat.le_of_ble_eq_true rfl)) dX0_writeParameters_24 (room_s hT13 hbl)) hS (fun q _ h => hf9 q h) hf9 (fun ad14 t H locs ht hvm hw hB hz1 hk1 hS => ?_)
  have hn15 := hw
  obtain ⟨hP, hK9, hD9⟩ := hB
  rw [ht] at hP
  have hD := hD9.weaken (fun _ q _ h => hf9 q.1 h)
  rw [xt_xt, ← eL13] at hP hD
  refine W_cs (k := L13.length) (n := wt L13) (by rw [eL13]; exact (len_s L7 y11.1).symm) (by rw [eL13]; exact (wt_app L7 y11.1).symm) ?_
  have hT : y.1 = L13 ++ w12.1 := by rw [hT13, eL13]
  have h2 : y.2 = w12.2 := by rw [h2, ew12]
  have hl := lv_sub (l' := [(0, .ref (ad8 a))]) hl [0] rfl
  have e9 : ([(0, .ref (ad8 a))] : List (Nat × Value)) = [(0, .ref (ad14 a))] := (by first | rfl | simp only [hn15 a hc])
  rw [e9] at hl
  clear e9
  have hk : (xt G L13).2.1 a = 0 := by rw [eL13]; exact xt_k _ hc hk
  have hc : a < (xt G L13).1 := by rw [eL13]; exact xt_l _ hc
  have hk2 : (xt G L13).2.1 b2 = 10 := by rw [eL13]; exact xt_k _ hc2 hk2
  have hc2 : b2 < (xt G L13).1 := by rw [eL13]; exact xt_l _ hc2
  have hk4 : (xt G L13).2.1 b4 = 10 := by rw [eL13]; exact xt_k _ hc4 hk4
  have hc4 : b4 < (xt G L13).1 := by rw [eL13]; exact xt_l _ hc4
  have hk10 : (xt G L13).2.1 b10 = 10 := by rw [eL13]; exact xt_k _ hc10 hk10
  have hc10 : b10 < (xt G L13).1 := by rw [eL13]; exact xt_l _ hc10
  have hag := agr_t (xt_ge _ _) hag hn15
  refine lv_aload_n hx hb dX0_writeParameters_27 rfl (lv_at hl 0 rfl) ?_
  refine lv_aload_n hx hb dX0_writeParameters_28 rfl (lv_at hl 0 rfl) ?_
  refine va_get (D := D) (ci := 0) (v := va_re ad14 (y11.2.2 a 1)) (C := RX0) (T := TX0) (N := 21) hx hb hts (mus hf_X0) hown hK hP a (wld_o ct ad14 (xt G L13) y11.2 hc hk (by decide)) rfl 1 (by decide) (hts (.fieldLink RX0 23 "VideoSuite$Coder" "now" "[I") (mu mw_813)) (fun _ h9 => h9) rfl dX0_writeParameters_29 ?_
  refine lv_iconst (v := (2 : Int32)) hx hb dX0_writeParameters_32 (by decide) ?_
  obtain ⟨b16, ho16, hc16, hk16, hF⟩ := dr_some hF
  refine W_st (st' := [.int (2 : Int32), .ref (ad14 b16), .ref (ad14 a)]) (by rw [va_some ho16]) ?_
  obtain ⟨hvc, hF⟩ := chk_some hF
  refine va_iald hx hb hK hP b16 1 (wld_i ct ad14 (xt G L13) y11.2 hc16 hk16) rfl hvc dX0_writeParameters_33 ?_
  obtain ⟨x17, ex17, hF⟩ := ltt_some hF
  refine lv_topi (fun zx17 ezx17 => ?_)
  obtain rfl : x17 = zx17 := ex17.trans ezx17.symm
  obtain ⟨y18, hy18, hF⟩ := bnd_some hF
  obtain ⟨w19, hF, ew19⟩ := app_some hF
  obtain ⟨L20, eL20, hF⟩ := ltt_some hF
  have hT20 : y.1 = (L13 ++ y18.1) ++ w19.1 := by rw [hT, ew19]; simp only [List.append_assoc]
  have hf9 := wA_in hD hA9 hS
  refine va_callv (va_runV (As := [.int x17]) (rest := []) ⟨hx, hb, hml, hown, hts⟩ (kX0_flag l D ct ad14 Z (xt G L13) y11.2 _ a x17 y18 hc hk hy18) (cwV 1 hts gX0_writeParameters_X0_flag rfl rfl rfl (by decide +kernel) ⟨Nat.le_of_ble_eq_true rfl, Nat.le_of_ble_eq_true rfl⟩) ⟨fun a U g mk q => by obtain ⟨q0, q1, qP, qK, qD, qZ, qN⟩ := q; exact ⟨q0, q1, qP, va_K.moved (u := U) (U := U.calling g mk a) (Vm.Alike.refl U.vm) qK, qD, sF.moved (u := U) (U := U.calling g mk a) (Vm.Alike.refl U.vm) qZ, nF.same rfl qN⟩, va_recv hK hP (ci := 0) (q0 := a) rfl (wld_o ct ad14 (xt G L13) y11.2 hc hk (by decide)), fun U hU hW => ⟨rfl, by rw [hU], by rw [hU]; exact hP, va_K.moved hW.alike hK, hD.weaken (fun _ _ _ _ => trivial), by rw [hU]; exact ((hZ.kept hS.2.1).narrow hf9).moved hW.alike, hN.warm hW⟩⟩ rfl rfl hl.1 rfl (lv_room (Nat.le_of_ble_eq_true rfl)) dX0_writeParameters_34 (room_s hT20 hbl)) hS (fun q _ h => hf9 q h) hf9 (fun ad21 t H locs ht hvm hw hB hz1 hk1 hS => ?_)
  have hn22 := hw
  obtain ⟨hP, hK9, hD9⟩ := hB
  rw [ht] at hP
  have hD := hD9.weaken (fun _ q _ h => hf9 q.1 h)
  rw [xt_xt, ← eL20] at hP hD
  refine W_cs (k := L20.length) (n := wt L20) (by rw [eL20]; exact (len_s L13 y18.1).symm) (by rw [eL20]; exact (wt_app L13 y18.1).symm) ?_
  have hT : y.1 = L20 ++ w19.1 := by rw [hT20, eL20]
  have h2 : y.2 = w19.2 := by rw [h2, ew19]
  have hl := lv_sub (l' := [(0, .ref (ad14 a))]) hl [0] rfl
  have e9 : ([(0, .ref (ad14 a))] : List (Nat × Value)) = [(0, .ref (ad21 a))] := (by first | rfl | simp only [hn22 a hc])
  rw [e9] at hl
  clear e9
  have hk : (xt G L20).2.1 a = 0 := by rw [eL20]; exact xt_k _ hc hk
  have hc : a < (xt G L20).1 := by rw [eL20]; exact xt_l _ hc
  have hk2 : (xt G L20).2.1 b2 = 10 := by rw [eL20]; exact xt_k _ hc2 hk2
  have hc2 : b2 < (xt G L20).1 := by rw [eL20]; exact xt_l _ hc2
  have hk4 : (xt G L20).2.1 b4 = 10 := by rw [eL20]; exact xt_k _ hc4 hk4
  have hc4 : b4 < (xt G L20).1 := by rw [eL20]; exact xt_l _ hc4
  have hk10 : (xt G L20).2.1 b10 = 10 := by rw [eL20]; exact xt_k _ hc10 hk10
  have hc10 : b10 < (xt G L20).1 := by rw [eL20]; exact xt_l _ hc10
  have hk16 : (xt G L20).2.1 b16 = 13 := by rw [eL20]; exact xt_k _ hc16 hk16
  have hc16 : b16 < (xt G L20).1 := by rw [eL20]; exact xt_l _ hc16
  have hag := agr_t (xt_ge _ _) hag hn22
  refine lv_aload_n hx hb dX0_writeParameters_37 rfl (lv_at hl 0 rfl) ?_
  refine lv_iconst (v := (0 : Int32)) hx hb dX0_writeParameters_38 (by decide) ?_
  obtain ⟨y23, hy23, hF⟩ := bnd_some hF
  obtain ⟨w24, hF, ew24⟩ := app_some hF
  obtain ⟨L25, eL25, hF⟩ := ltt_some hF
  have hT25 : y.1 = (L20 ++ y23.1) ++ w24.1 := by rw [hT, ew24]; simp only [List.append_assoc]
  have hf9 := wA_in hD hA9 hS
  refine va_callv (va_runV (As := [.int (0 : Int32)]) (rest := []) ⟨hx, hb, hml, hown, hts⟩ (kX0_flag l D ct ad21 Z (xt G L20) y18.2 _ a ((0 : Int32)) y23 hc hk hy23) (cwV 1 hts gX0_writeParameters_X0_flag rfl rfl rfl (by decide +kernel) ⟨Nat.le_of_ble_eq_true rfl, Nat.le_of_ble_eq_true rfl⟩) ⟨fun a U g mk q => by obtain ⟨q0, q1, qP, qK, qD, qZ, qN⟩ := q; exact ⟨q0, q1, qP, va_K.moved (u := U) (U := U.calling g mk a) (Vm.Alike.refl U.vm) qK, qD, sF.moved (u := U) (U := U.calling g mk a) (Vm.Alike.refl U.vm) qZ, nF.same rfl qN⟩, va_recv hK hP (ci := 0) (q0 := a) rfl (wld_o ct ad21 (xt G L20) y18.2 hc hk (by decide)), fun U hU hW => ⟨rfl, by rw [hU], by rw [hU]; exact hP, va_K.moved hW.alike hK, hD.weaken (fun _ _ _ _ => trivial), by rw [hU]; exact ((hZ.kept hS.2.1).narrow hf9).moved hW.alike, hN.warm hW⟩⟩ rfl rfl hl.1 rfl (lv_room (Nat.le_of_ble_eq_true rfl)) dX0_writeParameters_39 (room_s hT25 hbl)) hS (fun q _ h => hf9 q h) hf9 (fun ad26 t H locs ht hvm hw hB hz1 hk1 hS => ?_)
  have hn27 := hw
  obtain ⟨hP, hK9, hD9⟩ := hB
  rw [ht] at hP
  have hD := hD9.weaken (fun _ q _ h => hf9 q.1 h)
  rw [xt_xt, ← eL25] at hP hD
  refine W_cs (k := L25.length) (n := wt L25) (by rw [eL25]; exact (len_s L20 y23.1).symm) (by rw [eL25]; exact (wt_app L20 y23.1).symm) ?_
  have hT : y.1 = L25 ++ w24.1 := by rw [hT25, eL25]
  have h2 : y.2 = w24.2 := by rw [h2, ew24]
  have hl := lv_sub (l' := [(0, .ref (ad21 a))]) hl [0] rfl
  have e9 : ([(0, .ref (ad21 a))] : List (Nat × Value)) = [(0, .ref (ad26 a))] := (by first | rfl | simp only [hn27 a hc])
  rw [e9] at hl
  clear e9
  have hk : (xt G L25).2.1 a = 0 := by rw [eL25]; exact xt_k _ hc hk
  have hc : a < (xt G L25).1 := by rw [eL25]; exact xt_l _ hc
  have hk2 : (xt G L25).2.1 b2 = 10 := by rw [eL25]; exact xt_k _ hc2 hk2
  have hc2 : b2 < (xt G L25).1 := by rw [eL25]; exact xt_l _ hc2
  have hk4 : (xt G L25).2.1 b4 = 10 := by rw [eL25]; exact xt_k _ hc4 hk4
  have hc4 : b4 < (xt G L25).1 := by rw [eL25]; exact xt_l _ hc4
  have hk10 : (xt G L25).2.1 b10 = 10 := by rw [eL25]; exact xt_k _ hc10 hk10
  have hc10 : b10 < (xt G L25).1 := by rw [eL25]; exact xt_l _ hc10
  have hk16 : (xt G L25).2.1 b16 = 13 := by rw [eL25]; exact xt_k _ hc16 hk16
  have hc16 : b16 < (xt G L25).1 := by rw [eL25]; exact xt_l _ hc16
  have hag := agr_t (xt_ge _ _) hag hn27
  refine lv_aload_n hx hb dX0_writeParameters_42 rfl (lv_at hl 0 rfl) ?_
  refine va_get (D := D) (ci := 0) (v := va_re ad26 (y23.2.2 a 2)) (C := RX0) (T := TX0) (N := 21) hx hb hts (mus hf_X0) hown hK hP a (wld_o ct ad26 (xt G L25) y23.2 hc hk (by decide)) rfl 2 (by decide) (hts (.fieldLink RX0 29 "VideoSuite$Coder" "writer" "LVideoSuite$Writer;") (mu mw_815)) (fun _ h9 => h9) rfl dX0_writeParameters_43 ?_
  refine lv_iconst (v := (0 : Int32)) hx hb dX0_writeParameters_46 (by decide) ?_
  refine lv_iconst (v := (0 : Int32)) hx hb dX0_writeParameters_47 (by decide) ?_
  obtain ⟨b28, ho28, hc28, hk28, hF⟩ := dr_some hF
  refine W_st (st' := [.int (0 : Int32), .int (0 : Int32), .ref (ad26 b28)]) (by rw [va_some ho28]) ?_
  obtain ⟨y29, hy29, hF⟩ := bnd_some hF
  obtain ⟨w30, hF, ew30⟩ := app_some hF
  obtain ⟨L31, eL31, hF⟩ := ltt_some hF
  have hT31 : y.1 = (L25 ++ y29.1) ++ w30.1 := by rw [hT, ew30]; simp only [List.append_assoc]
  have hf9 := wA_in hD hA9 hS
  refine va_callv (va_runV (As := [.int (0 : Int32), .int (0 : Int32)]) (rest := []) ⟨hx, hb, hml, hown, hts⟩ (kX10_ue l D ct ad26 Z (xt G L25) y23.2 _ b28 ((0 : Int32)) ((0 : Int32)) y29 hc28 hk28 hy29) (cwV 2 hts gX0_writeParameters_X10_ue rfl rfl rfl (by decide +kernel) ⟨Nat.le_of_ble_eq_true rfl, Nat.le_of_ble_eq_true rfl⟩) ⟨fun a U g mk q => by obtain ⟨q0, q1, qP, qK, qD, qZ, qN⟩ := q; exact ⟨q0, q1, qP, va_K.moved (u := U) (U := U.calling g mk a) (Vm.Alike.refl U.vm) qK, qD, sF.moved (u := U) (U := U.calling g mk a) (Vm.Alike.refl U.vm) qZ, nF.same rfl qN⟩, va_recv hK hP (ci := 10) (q0 := b28) rfl (wld_o ct ad26 (xt G L25) y23.2 hc28 hk28 (by decide)), fun U hU hW => ⟨rfl, by rw [hU], by rw [hU]; exact hP, va_K.moved hW.alike hK, hD.weaken (fun _ _ _ _ => trivial), by rw [hU]; exact ((hZ.kept hS.2.1).narrow hf9).moved hW.alike, hN.warm hW⟩⟩ rfl rfl hl.1 rfl (lv_room (Nat.le_of_ble_eq_true rfl)) dX0_writeParameters_48 (room_s hT31 hbl)) hS (fun q _ h => hf9 q h) hf9 (fun ad32 t H locs ht hvm hw hB hz1 hk1 hS => ?_)
  have hn33 := hw
  obtain ⟨hP, hK9, hD9⟩ := hB
  rw [ht] at hP
  have hD := hD9.weaken (fun _ q _ h => hf9 q.1 h)
  rw [xt_xt, ← eL31] at hP hD
  refine W_cs (k := L31.length) (n := wt L31) (by rw [eL31]; exact (len_s L25 y29.1).symm) (by rw [eL31]; exact (wt_app L25 y29.1).symm) ?_
  have hT : y.1 = L31 ++ w30.1 := by rw [hT31, eL31]
  have h2 : y.2 = w30.2 := by rw [h2, ew30]
  have hl := lv_sub (l' := [(0, .ref (ad26 a))]) hl [0] rfl
  have e9 : ([(0, .ref (ad26 a))] : List (Nat × Value)) = [(0, .ref (ad32 a))] := (by first | rfl | simp only [hn33 a hc])
  rw [e9] at hl
  clear e9
  have hk : (xt G L31).2.1 a = 0 := by rw [eL31]; exact xt_k _ hc hk
  have hc : a < (xt G L31).1 := by rw [eL31]; exact xt_l _ hc
  have hk2 : (xt G L31).2.1 b2 = 10 := by rw [eL31]; exact xt_k _ hc2 hk2
  have hc2 : b2 < (xt G L31).1 := by rw [eL31]; exact xt_l _ hc2
  have hk4 : (xt G L31).2.1 b4 = 10 := by rw [eL31]; exact xt_k _ hc4 hk4
  have hc4 : b4 < (xt G L31).1 := by rw [eL31]; exact xt_l _ hc4
  have hk10 : (xt G L31).2.1 b10 = 10 := by rw [eL31]; exact xt_k _ hc10 hk10
  have hc10 : b10 < (xt G L31).1 := by rw [eL31]; exact xt_l _ hc10
  have hk16 : (xt G L31).2.1 b16 = 13 := by rw [eL31]; exact xt_k _ hc16 hk16
  have hc16 : b16 < (xt G L31).1 := by rw [eL31]; exact xt_l _ hc16
  have hk28 : (xt G L31).2.1 b28 = 10 := by rw [eL31]; exact xt_k _ hc28 hk28
  have hc28 : b28 < (xt G L31).1 := by rw [eL31]; exact xt_l _ hc28
  have hag := agr_t (xt_ge _ _) hag hn33
  refine lv_aload_n hx hb dX0_writeParameters_51 rfl (lv_at hl 0 rfl) ?_
  refine va_get (D := D) (ci := 0) (v := va_re ad32 (y29.2.2 a 2)) (C := RX0) (T := TX0) (N := 21) hx hb hts (mus hf_X0) hown hK hP a (wld_o ct ad32 (xt G L31) y29.2 hc hk (by decide)) rfl 2 (by decide) (hts (.fieldLink RX0 29 "VideoSuite$Coder" "writer" "LVideoSuite$Writer;") (mu mw_815)) (fun _ h9 => h9) rfl dX0_writeParameters_52 ?_
  refine lv_iconst (v := (0 : Int32)) hx hb dX0_writeParameters_55 (by decide) ?_
  refine lv_aload_n hx hb dX0_writeParameters_56 rfl (lv_at hl 0 rfl) ?_
  refine va_get (D := D) (ci := 0) (v := va_re ad32 (y29.2.2 a 1)) (C := RX0) (T := TX0) (N := 21) hx hb hts (mus hf_X0) hown hK hP a (wld_o ct ad32 (xt G L31) y29.2 hc hk (by decide)) rfl 1 (by decide) (hts (.fieldLink RX0 23 "VideoSuite$Coder" "now" "[I") (mu mw_813)) (fun _ h9 => h9) rfl dX0_writeParameters_57 ?_
  refine lv_bipush (v := (7 : Int32)) hx hb dX0_writeParameters_60 (by decide) ?_
  obtain ⟨b34, ho34, hc34, hk34, hF⟩ := dr_some hF
  refine W_st (st' := [.int (7 : Int32), .ref (ad32 b34), .int (0 : Int32), va_re ad32 (y29.2.2 a 2)]) (by rw [va_some ho34]) ?_
  obtain ⟨hvc, hF⟩ := chk_some hF
  refine va_iald hx hb hK hP b34 1 (wld_i ct ad32 (xt G L31) y29.2 hc34 hk34) rfl hvc dX0_writeParameters_62 ?_
  obtain ⟨x35, ex35, hF⟩ := ltt_some hF
  refine lv_topi (fun zx35 ezx35 => ?_)
  obtain rfl : x35 = zx35 := ex35.trans ezx35.symm
  refine lv_iconst (v := (1 : Int32)) hx hb dX0_writeParameters_63 (by decide) ?_
  refine lv_isub hx hb dX0_writeParameters_64 ?_
  obtain ⟨x36, ex36, hF⟩ := ltt_some hF
  refine lv_topi (fun zx36 ezx36 => ?_)
  obtain rfl : x36 = zx36 := ex36.trans ezx36.symm
  obtain ⟨b37, ho37, hc37, hk37, hF⟩ := dr_some hF
  refine W_st (st' := [.int x36, .int (0 : Int32), .ref (ad32 b37)]) (by rw [va_some ho37]) ?_
  obtain ⟨y38, hy38, hF⟩ := bnd_some hF
  obtain ⟨w39, hF, ew39⟩ := app_some hF
  obtain ⟨L40, eL40, hF⟩ := ltt_some hF
  have hT40 : y.1 = (L31 ++ y38.1) ++ w39.1 := by rw [hT, ew39]; simp only [List.append_assoc]
  have hf9 := wA_in hD hA9 hS
  refine va_callv (va_runV (As := [.int (0 : Int32), .int x36]) (rest := []) ⟨hx, hb, hml, hown, hts⟩ (kX10_ue l D ct ad32 Z (xt G L31) y29.2 _ b37 ((0 : Int32)) x36 y38 hc37 hk37 hy38) (cwV 2 hts gX0_writeParameters_X10_ue rfl rfl rfl (by decide +kernel) ⟨Nat.le_of_ble_eq_true rfl, Nat.le_of_ble_eq_true rfl⟩) ⟨fun a U g mk q => by obtain ⟨q0, q1, qP, qK, qD, qZ, qN⟩ := q; exact ⟨q0, q1, qP, va_K.moved (u := U) (U := U.calling g mk a) (Vm.Alike.refl U.vm) qK, qD, sF.moved (u := U) (U := U.calling g mk a) (Vm.Alike.refl U.vm) qZ, nF.same rfl qN⟩, va_recv hK hP (ci := 10) (q0 := b37) rfl (wld_o ct ad32 (xt G L31) y29.2 hc37 hk37 (by decide)), fun U hU hW => ⟨rfl, by rw [hU], by rw [hU]; exact hP, va_K.moved hW.alike hK, hD.weaken (fun _ _ _ _ => trivial), by rw [hU]; exact ((hZ.kept hS.2.1).narrow hf9).moved hW.alike, hN.warm hW⟩⟩ rfl rfl hl.1 rfl (lv_room (Nat.le_of_ble_eq_true rfl)) dX0_writeParameters_65 (room_s hT40 hbl)) hS (fun q _ h => hf9 q h) hf9 (fun ad41 t H locs ht hvm hw hB hz1 hk1 hS => ?_)
  have hn42 := hw
  obtain ⟨hP, hK9, hD9⟩ := hB
  rw [ht] at hP
  have hD := hD9.weaken (fun _ q _ h => hf9 q.1 h)
  rw [xt_xt, ← eL40] at hP hD
  refine W_cs (k := L40.length) (n := wt L40) (by rw [eL40]; exact (len_s L31 y38.1).symm) (by rw [eL40]; exact (wt_app L31 y38.1).symm) ?_
  have hT : y.1 = L40 ++ w39.1 := by rw [hT40, eL40]
  have h2 : y.2 = w39.2 := by rw [h2, ew39]
  have hl := lv_sub (l' := [(0, .ref (ad32 a))]) hl [0] rfl
  have e9 : ([(0, .ref (ad32 a))] : List (Nat × Value)) = [(0, .ref (ad41 a))] := (by first | rfl | simp only [hn42 a hc])
  rw [e9] at hl
  clear e9
  have hk : (xt G L40).2.1 a = 0 := by rw [eL40]; exact xt_k _ hc hk
  have hc : a < (xt G L40).1 := by rw [eL40]; exact xt_l _ hc
  have hk2 : (xt G L40).2.1 b2 = 10 := by rw [eL40]; exact xt_k _ hc2 hk2
  have hc2 : b2 < (xt G L40).1 := by rw [eL40]; exact xt_l _ hc2
  have hk4 : (xt G L40).2.1 b4 = 10 := by rw [eL40]; exact xt_k _ hc4 hk4
  have hc4 : b4 < (xt G L40).1 := by rw [eL40]; exact xt_l _ hc4
  have hk10 : (xt G L40).2.1 b10 = 10 := by rw [eL40]; exact xt_k _ hc10 hk10
  have hc10 : b10 < (xt G L40).1 := by rw [eL40]; exact xt_l _ hc10
  have hk16 : (xt G L40).2.1 b16 = 13 := by rw [eL40]; exact xt_k _ hc16 hk16
  have hc16 : b16 < (xt G L40).1 := by rw [eL40]; exact xt_l _ hc16
  have hk28 : (xt G L40).2.1 b28 = 10 := by rw [eL40]; exact xt_k _ hc28 hk28
  have hc28 : b28 < (xt G L40).1 := by rw [eL40]; exact xt_l _ hc28
  have hk34 : (xt G L40).2.1 b34 = 13 := by rw [eL40]; exact xt_k _ hc34 hk34
  have hc34 : b34 < (xt G L40).1 := by rw [eL40]; exact xt_l _ hc34
  have hk37 : (xt G L40).2.1 b37 = 10 := by rw [eL40]; exact xt_k _ hc37 hk37
  have hc37 : b37 < (xt G L40).1 := by rw [eL40]; exact xt_l _ hc37
  have hag := agr_t (xt_ge _ _) hag hn42
  refine lv_aload_n hx hb dX0_writeParameters_68 rfl (lv_at hl 0 rfl) ?_
  refine va_get (D := D) (ci := 0) (v := va_re ad41 (y38.2.2 a 2)) (C := RX0) (T := TX0) (N := 21) hx hb hts (mus hf_X0) hown hK hP a (wld_o ct ad41 (xt G L40) y38.2 hc hk (by decide)) rfl 2 (by decide) (hts (.fieldLink RX0 29 "VideoSuite$Coder" "writer" "LVideoSuite$Writer;") (mu mw_815)) (fun _ h9 => h9) rfl dX0_writeParameters_69 ?_
  refine lv_iconst (v := (0 : Int32)) hx hb dX0_writeParameters_72 (by decide) ?_
  refine lv_iconst (v := (0 : Int32)) hx hb dX0_writeParameters_73 (by decide) ?_
  obtain ⟨b43, ho43, hc43, hk43, hF⟩ := dr_some hF
  refine W_st (st' := [.int (0 : Int32), .int (0 : Int32), .ref (ad41 b43)]) (by rw [va_some ho43]) ?_
  obtain ⟨y44, hy44, hF⟩ := bnd_some hF
  obtain ⟨w45, hF, ew45⟩ := app_some hF
  obtain ⟨L46, eL46, hF⟩ := ltt_some hF
  have hT46 : y.1 = (L40 ++ y44.1) ++ w45.1 := by rw [hT, ew45]; simp only [List.append_assoc]
  have hf9 := wA_in hD hA9 hS
  refine va_callv (va_runV (As := [.int (0 : Int32), .int (0 : Int32)]) (rest := []) ⟨hx, hb, hml, hown, hts⟩ (kX10_ue l D ct ad41 Z (xt G L40) y38.2 _ b43 ((0 : Int32)) ((0 : Int32)) y44 hc43 hk43 hy44) (cwV 2 hts gX0_writeParameters_X10_ue rfl rfl rfl (by decide +kernel) ⟨Nat.le_of_ble_eq_true rfl, Nat.le_of_ble_eq_true rfl⟩) ⟨fun a U g mk q => by obtain ⟨q0, q1, qP, qK, qD, qZ, qN⟩ := q; exact ⟨q0, q1, qP, va_K.moved (u := U) (U := U.calling g mk a) (Vm.Alike.refl U.vm) qK, qD, sF.moved (u := U) (U := U.calling g mk a) (Vm.Alike.refl U.vm) qZ, nF.same rfl qN⟩, va_recv hK hP (ci := 10) (q0 := b43) rfl (wld_o ct ad41 (xt G L40) y38.2 hc43 hk43 (by decide)), fun U hU hW => ⟨rfl, by rw [hU], by rw [hU]; exact hP, va_K.moved hW.alike hK, hD.weaken (fun _ _ _ _ => trivial), by rw [hU]; exact ((hZ.kept hS.2.1).narrow hf9).moved hW.alike, hN.warm hW⟩⟩ rfl rfl hl.1 rfl (lv_room (Nat.le_of_ble_eq_true rfl)) dX0_writeParameters_74 (room_s hT46 hbl)) hS (fun q _ h => hf9 q h) hf9 (fun ad47 t H locs ht hvm hw hB hz1 hk1 hS => ?_)
  have hn48 := hw
  obtain ⟨hP, hK9, hD9⟩ := hB
  rw [ht] at hP
  have hD := hD9.weaken (fun _ q _ h => hf9 q.1 h)
  rw [xt_xt, ← eL46] at hP hD
  refine W_cs (k := L46.length) (n := wt L46) (by rw [eL46]; exact (len_s L40 y44.1).symm) (by rw [eL46]; exact (wt_app L40 y44.1).symm) ?_
  have hT : y.1 = L46 ++ w45.1 := by rw [hT46, eL46]
  have h2 : y.2 = w45.2 := by rw [h2, ew45]
  have hl := lv_sub (l' := [(0, .ref (ad41 a))]) hl [0] rfl
  have e9 : ([(0, .ref (ad41 a))] : List (Nat × Value)) = [(0, .ref (ad47 a))] := (by first | rfl | simp only [hn48 a hc])
  rw [e9] at hl
  clear e9
  have hk : (xt G L46).2.1 a = 0 := by rw [eL46]; exact xt_k _ hc hk
  have hc : a < (xt G L46).1 := by rw [eL46]; exact xt_l _ hc
  have hk2 : (xt G L46).2.1 b2 = 10 := by rw [eL46]; exact xt_k _ hc2 hk2
  have hc2 : b2 < (xt G L46).1 := by rw [eL46]; exact xt_l _ hc2
  have hk4 : (xt G L46).2.1 b4 = 10 := by rw [eL46]; exact xt_k _ hc4 hk4
  have hc4 : b4 < (xt G L46).1 := by rw [eL46]; exact xt_l _ hc4
  have hk10 : (xt G L46).2.1 b10 = 10 := by rw [eL46]; exact xt_k _ hc10 hk10
  have hc10 : b10 < (xt G L46).1 := by rw [eL46]; exact xt_l _ hc10
  have hk16 : (xt G L46).2.1 b16 = 13 := by rw [eL46]; exact xt_k _ hc16 hk16
  have hc16 : b16 < (xt G L46).1 := by rw [eL46]; exact xt_l _ hc16
  have hk28 : (xt G L46).2.1 b28 = 10 := by rw [eL46]; exact xt_k _ hc28 hk28
  have hc28 : b28 < (xt G L46).1 := by rw [eL46]; exact xt_l _ hc28
  have hk34 : (xt G L46).2.1 b34 = 13 := by rw [eL46]; exact xt_k _ hc34 hk34
  have hc34 : b34 < (xt G L46).1 := by rw [eL46]; exact xt_l _ hc34
  have hk37 : (xt G L46).2.1 b37 = 10 := by rw [eL46]; exact xt_k _ hc37 hk37
  have hc37 : b37 < (xt G L46).1 := by rw [eL46]; exact xt_l _ hc37
  have hk43 : (xt G L46).2.1 b43 = 10 := by rw [eL46]; exact xt_k _ hc43 hk43
  have hc43 : b43 < (xt G L46).1 := by rw [eL46]; exact xt_l _ hc43
  have hag := agr_t (xt_ge _ _) hag hn48
  refine lv_aload_n hx hb dX0_writeParameters_77 rfl (lv_at hl 0 rfl) ?_
  refine lv_aload_n hx hb dX0_writeParameters_78 rfl (lv_at hl 0 rfl) ?_
  refine va_get (D := D) (ci := 0) (v := va_re ad47 (y44.2.2 a 1)) (C := RX0) (T := TX0) (N := 21) hx hb hts (mus hf_X0) hown hK hP a (wld_o ct ad47 (xt G L46) y44.2 hc hk (by decide)) rfl 1 (by decide) (hts (.fieldLink RX0 23 "VideoSuite$Coder" "now" "[I") (mu mw_813)) (fun _ h9 => h9) rfl dX0_writeParameters_79 ?_
  refine lv_bipush (v := (20 : Int32)) hx hb dX0_writeParameters_82 (by decide) ?_
  obtain ⟨b49, ho49, hc49, hk49, hF⟩ := dr_some hF
  refine W_st (st' := [.int (20 : Int32), .ref (ad47 b49), .ref (ad47 a)]) (by rw [va_some ho49]) ?_
  obtain ⟨hvc, hF⟩ := chk_some hF
  refine va_iald hx hb hK hP b49 1 (wld_i ct ad47 (xt G L46) y44.2 hc49 hk49) rfl hvc dX0_writeParameters_84 ?_
  obtain ⟨x50, ex50, hF⟩ := ltt_some hF
  refine lv_topi (fun zx50 ezx50 => ?_)
  obtain rfl : x50 = zx50 := ex50.trans ezx50.symm
  obtain ⟨y51, hy51, hF⟩ := bnd_some hF
  obtain ⟨w52, hF, ew52⟩ := app_some hF
  obtain ⟨L53, eL53, hF⟩ := ltt_some hF
  have hT53 : y.1 = (L46 ++ y51.1) ++ w52.1 := by rw [hT, ew52]; simp only [List.append_assoc]
  have hf9 := wA_in hD hA9 hS
  refine va_callv (va_runV (As := [.int x50]) (rest := []) ⟨hx, hb, hml, hown, hts⟩ (kX0_flag l D ct ad47 Z (xt G L46) y44.2 _ a x50 y51 hc hk hy51) (cwV 1 hts gX0_writeParameters_X0_flag rfl rfl rfl (by decide +kernel) ⟨Nat.le_of_ble_eq_true rfl, Nat.le_of_ble_eq_true rfl⟩) ⟨fun a U g mk q => by obtain ⟨q0, q1, qP, qK, qD, qZ, qN⟩ := q; exact ⟨q0, q1, qP, va_K.moved (u := U) (U := U.calling g mk a) (Vm.Alike.refl U.vm) qK, qD, sF.moved (u := U) (U := U.calling g mk a) (Vm.Alike.refl U.vm) qZ, nF.same rfl qN⟩, va_recv hK hP (ci := 0) (q0 := a) rfl (wld_o ct ad47 (xt G L46) y44.2 hc hk (by decide)), fun U hU hW => ⟨rfl, by rw [hU], by rw [hU]; exact hP, va_K.moved hW.alike hK, hD.weaken (fun _ _ _ _ => trivial), by rw [hU]; exact ((hZ.kept hS.2.1).narrow hf9).moved hW.alike, hN.warm hW⟩⟩ rfl rfl hl.1 rfl (lv_room (Nat.le_of_ble_eq_true rfl)) dX0_writeParameters_85 (room_s hT53 hbl)) hS (fun q _ h => hf9 q h) hf9 (fun ad54 t H locs ht hvm hw hB hz1 hk1 hS => ?_)
  have hn55 := hw
  obtain ⟨hP, hK9, hD9⟩ := hB
  rw [ht] at hP
  have hD := hD9.weaken (fun _ q _ h => hf9 q.1 h)
  rw [xt_xt, ← eL53] at hP hD
  refine W_cs (k := L53.length) (n := wt L53) (by rw [eL53]; exact (len_s L46 y51.1).symm) (by rw [eL53]; exact (wt_app L46 y51.1).symm) ?_
  have hT : y.1 = L53 ++ w52.1 := by rw [hT53, eL53]
  have h2 : y.2 = w52.2 := by rw [h2, ew52]
  have hl := lv_sub (l' := [(0, .ref (ad47 a))]) hl [0] rfl
  have e9 : ([(0, .ref (ad47 a))] : List (Nat × Value)) = [(0, .ref (ad54 a))] := (by first | rfl | simp only [hn55 a hc])
  rw [e9] at hl
  clear e9
  have hk : (xt G L53).2.1 a = 0 := by rw [eL53]; exact xt_k _ hc hk
  have hc : a < (xt G L53).1 := by rw [eL53]; exact xt_l _ hc
  have hk2 : (xt G L53).2.1 b2 = 10 := by rw [eL53]; exact xt_k _ hc2 hk2
  have hc2 : b2 < (xt G L53).1 := by rw [eL53]; exact xt_l _ hc2
  have hk4 : (xt G L53).2.1 b4 = 10 := by rw [eL53]; exact xt_k _ hc4 hk4
  have hc4 : b4 < (xt G L53).1 := by rw [eL53]; exact xt_l _ hc4
  have hk10 : (xt G L53).2.1 b10 = 10 := by rw [eL53]; exact xt_k _ hc10 hk10
  have hc10 : b10 < (xt G L53).1 := by rw [eL53]; exact xt_l _ hc10
  have hk16 : (xt G L53).2.1 b16 = 13 := by rw [eL53]; exact xt_k _ hc16 hk16
  have hc16 : b16 < (xt G L53).1 := by rw [eL53]; exact xt_l _ hc16
  have hk28 : (xt G L53).2.1 b28 = 10 := by rw [eL53]; exact xt_k _ hc28 hk28
  have hc28 : b28 < (xt G L53).1 := by rw [eL53]; exact xt_l _ hc28
  have hk34 : (xt G L53).2.1 b34 = 13 := by rw [eL53]; exact xt_k _ hc34 hk34
  have hc34 : b34 < (xt G L53).1 := by rw [eL53]; exact xt_l _ hc34
  have hk37 : (xt G L53).2.1 b37 = 10 := by rw [eL53]; exact xt_k _ hc37 hk37
  have hc37 : b37 < (xt G L53).1 := by rw [eL53]; exact xt_l _ hc37
  have hk43 : (xt G L53).2.1 b43 = 10 := by rw [eL53]; exact xt_k _ hc43 hk43
  have hc43 : b43 < (xt G L53).1 := by rw [eL53]; exact xt_l _ hc43
  have hk49 : (xt G L53).2.1 b49 = 13 := by rw [eL53]; exact xt_k _ hc49 hk49
  have hc49 : b49 < (xt G L53).1 := by rw [eL53]; exact xt_l _ hc49
  have hag := agr_t (xt_ge _ _) hag hn55
  refine lv_aload_n hx hb dX0_writeParameters_88 rfl (lv_at hl 0 rfl) ?_
  refine va_get (D := D) (ci := 0) (v := va_re ad54 (y51.2.2 a 2)) (C := RX0) (T := TX0) (N := 21) hx hb hts (mus hf_X0) hown hK hP a (wld_o ct ad54 (xt G L53) y51.2 hc hk (by decide)) rfl 2 (by decide) (hts (.fieldLink RX0 29 "VideoSuite$Coder" "writer" "LVideoSuite$Writer;") (mu mw_815)) (fun _ h9 => h9) rfl dX0_writeParameters_89 ?_
  refine lv_iconst (v := (0 : Int32)) hx hb dX0_writeParameters_92 (by decide) ?_
  refine lv_aload_n hx hb dX0_writeParameters_93 rfl (lv_at hl 0 rfl) ?_
  refine va_get (D := D) (ci := 0) (v := va_re ad54 (y51.2.2 a 1)) (C := RX0) (T := TX0) (N := 21) hx hb hts (mus hf_X0) hown hK hP a (wld_o ct ad54 (xt G L53) y51.2 hc hk (by decide)) rfl 1 (by decide) (hts (.fieldLink RX0 23 "VideoSuite$Coder" "now" "[I") (mu mw_813)) (fun _ h9 => h9) rfl dX0_writeParameters_94 ?_
  refine lv_bipush (v := (21 : Int32)) hx hb dX0_writeParameters_97 (by decide) ?_
  obtain ⟨b56, ho56, hc56, hk56, hF⟩ := dr_some hF
  refine W_st (st' := [.int (21 : Int32), .ref (ad54 b56), .int (0 : Int32), va_re ad54 (y51.2.2 a 2)]) (by rw [va_some ho56]) ?_
  obtain ⟨hvc, hF⟩ := chk_some hF
  refine va_iald hx hb hK hP b56 1 (wld_i ct ad54 (xt G L53) y51.2 hc56 hk56) rfl hvc dX0_writeParameters_99 ?_
  obtain ⟨x57, ex57, hF⟩ := ltt_some hF
  refine lv_topi (fun zx57 ezx57 => ?_)
  obtain rfl : x57 = zx57 := ex57.trans ezx57.symm
  refine lv_i2l (v := x57.toInt64) hx hb dX0_writeParameters_100 rfl ?_
  obtain ⟨x58, ex58, hF⟩ := ltt_some hF
  refine lv_topl (fun zx58 ezx58 => ?_)
  obtain rfl : x58 = zx58 := ex58.trans ezx58.symm
  refine lv_iconst (v := (2 : Int32)) hx hb dX0_writeParameters_101 (by decide) ?_
  obtain ⟨b59, ho59, hc59, hk59, hF⟩ := dr_some hF
  refine W_st (st' := [.int (2 : Int32), .long x58, .int (0 : Int32), .ref (ad54 b59)]) (by rw [va_some ho59]) ?_
  obtain ⟨y60, hy60, hF⟩ := bnd_some hF
  obtain ⟨w61, hF, ew61⟩ := app_some hF
  obtain ⟨L62, eL62, hF⟩ := ltt_some hF
  have hT62 : y.1 = (L53 ++ y60.1) ++ w61.1 := by rw [hT, ew61]; simp only [List.append_assoc]
  have hf9 := wA_in hD hA9 hS
  refine va_callv (va_runV (As := [.int (0 : Int32), .long x58, .int (2 : Int32)]) (rest := []) ⟨hx, hb, hml, hown, hts⟩ (kX10_code l D ct ad54 Z (xt G L53) y51.2 _ b59 ((0 : Int32)) x58 ((2 : Int32)) y60 hc59 hk59 hy60) (cwV 3 hts gX0_writeParameters_X10_code rfl rfl rfl (by decide +kernel) ⟨Nat.le_of_ble_eq_true rfl, Nat.le_of_ble_eq_true rfl⟩) ⟨fun a U g mk q => by obtain ⟨q0, q1, qP, qK, qD, qZ, qN⟩ := q; exact ⟨q0, q1, qP, va_K.moved (u := U) (U := U.calling g mk a) (Vm.Alike.refl U.vm) qK, qD, sF.moved (u := U) (U := U.calling g mk a) (Vm.Alike.refl U.vm) qZ, nF.same rfl qN⟩, va_recv hK hP (ci := 10) (q0 := b59) rfl (wld_o ct ad54 (xt G L53) y51.2 hc59 hk59 (by decide)), fun U hU hW => ⟨rfl, by rw [hU], by rw [hU]; exact hP, va_K.moved hW.alike hK, hD.weaken (fun _ _ _ _ => trivial), by rw [hU]; exact ((hZ.kept hS.2.1).narrow hf9).moved hW.alike, hN.warm hW⟩⟩ rfl rfl hl.1 rfl (lv_room (Nat.le_of_ble_eq_true rfl)) dX0_writeParameters_102 (room_s hT62 hbl)) hS (fun q _ h => hf9 q h) hf9 (fun ad63 t H locs ht hvm hw hB hz1 hk1 hS => ?_)
  have hn64 := hw
  obtain ⟨hP, hK9, hD9⟩ := hB
  rw [ht] at hP
  have hD := hD9.weaken (fun _ q _ h => hf9 q.1 h)
  rw [xt_xt, ← eL62] at hP hD
  refine W_cs (k := L62.length) (n := wt L62) (by rw [eL62]; exact (len_s L53 y60.1).symm) (by rw [eL62]; exact (wt_app L53 y60.1).symm) ?_
  have hT : y.1 = L62 ++ w61.1 := by rw [hT62, eL62]
  have h2 : y.2 = w61.2 := by rw [h2, ew61]
  have hl := lv_sub (l' := [(0, .ref (ad54 a))]) hl [0] rfl
  have e9 : ([(0, .ref (ad54 a))] : List (Nat × Value)) = [(0, .ref (ad63 a))] := (by first | rfl | simp only [hn64 a hc])
  rw [e9] at hl
  clear e9
  have hk : (xt G L62).2.1 a = 0 := by rw [eL62]; exact xt_k _ hc hk
  have hc : a < (xt G L62).1 := by rw [eL62]; exact xt_l _ hc
  have hk2 : (xt G L62).2.1 b2 = 10 := by rw [eL62]; exact xt_k _ hc2 hk2
  have hc2 : b2 < (xt G L62).1 := by rw [eL62]; exact xt_l _ hc2
  have hk4 : (xt G L62).2.1 b4 = 10 := by rw [eL62]; exact xt_k _ hc4 hk4
  have hc4 : b4 < (xt G L62).1 := by rw [eL62]; exact xt_l _ hc4
  have hk10 : (xt G L62).2.1 b10 = 10 := by rw [eL62]; exact xt_k _ hc10 hk10
  have hc10 : b10 < (xt G L62).1 := by rw [eL62]; exact xt_l _ hc10
  have hk16 : (xt G L62).2.1 b16 = 13 := by rw [eL62]; exact xt_k _ hc16 hk16
  have hc16 : b16 < (xt G L62).1 := by rw [eL62]; exact xt_l _ hc16
  have hk28 : (xt G L62).2.1 b28 = 10 := by rw [eL62]; exact xt_k _ hc28 hk28
  have hc28 : b28 < (xt G L62).1 := by rw [eL62]; exact xt_l _ hc28
  have hk34 : (xt G L62).2.1 b34 = 13 := by rw [eL62]; exact xt_k _ hc34 hk34
  have hc34 : b34 < (xt G L62).1 := by rw [eL62]; exact xt_l _ hc34
  have hk37 : (xt G L62).2.1 b37 = 10 := by rw [eL62]; exact xt_k _ hc37 hk37
  have hc37 : b37 < (xt G L62).1 := by rw [eL62]; exact xt_l _ hc37
  have hk43 : (xt G L62).2.1 b43 = 10 := by rw [eL62]; exact xt_k _ hc43 hk43
  have hc43 : b43 < (xt G L62).1 := by rw [eL62]; exact xt_l _ hc43
  have hk49 : (xt G L62).2.1 b49 = 13 := by rw [eL62]; exact xt_k _ hc49 hk49
  have hc49 : b49 < (xt G L62).1 := by rw [eL62]; exact xt_l _ hc49
  have hk56 : (xt G L62).2.1 b56 = 13 := by rw [eL62]; exact xt_k _ hc56 hk56
  have hc56 : b56 < (xt G L62).1 := by rw [eL62]; exact xt_l _ hc56
  have hk59 : (xt G L62).2.1 b59 = 10 := by rw [eL62]; exact xt_k _ hc59 hk59
  have hc59 : b59 < (xt G L62).1 := by rw [eL62]; exact xt_l _ hc59
  have hag := agr_t (xt_ge _ _) hag hn64
  refine lv_aload_n hx hb dX0_writeParameters_105 rfl (lv_at hl 0 rfl) ?_
  refine va_get (D := D) (ci := 0) (v := va_re ad63 (y60.2.2 a 2)) (C := RX0) (T := TX0) (N := 21) hx hb hts (mus hf_X0) hown hK hP a (wld_o ct ad63 (xt G L62) y60.2 hc hk (by decide)) rfl 2 (by decide) (hts (.fieldLink RX0 29 "VideoSuite$Coder" "writer" "LVideoSuite$Writer;") (mu mw_815)) (fun _ h9 => h9) rfl dX0_writeParameters_106 ?_
  refine lv_iconst (v := (0 : Int32)) hx hb dX0_writeParameters_109 (by decide) ?_
  refine lv_aload_n hx hb dX0_writeParameters_110 rfl (lv_at hl 0 rfl) ?_
  refine va_get (D := D) (ci := 0) (v := va_re ad63 (y60.2.2 a 1)) (C := RX0) (T := TX0) (N := 21) hx hb hts (mus hf_X0) hown hK hP a (wld_o ct ad63 (xt G L62) y60.2 hc hk (by decide)) rfl 1 (by decide) (hts (.fieldLink RX0 23 "VideoSuite$Coder" "now" "[I") (mu mw_813)) (fun _ h9 => h9) rfl dX0_writeParameters_111 ?_
  refine lv_iconst (v := (3 : Int32)) hx hb dX0_writeParameters_114 (by decide) ?_
  obtain ⟨b65, ho65, hc65, hk65, hF⟩ := dr_some hF
  refine W_st (st' := [.int (3 : Int32), .ref (ad63 b65), .int (0 : Int32), va_re ad63 (y60.2.2 a 2)]) (by rw [va_some ho65]) ?_
  obtain ⟨hvc, hF⟩ := chk_some hF
  refine va_iald hx hb hK hP b65 1 (wld_i ct ad63 (xt G L62) y60.2 hc65 hk65) rfl hvc dX0_writeParameters_115 ?_
  obtain ⟨x66, ex66, hF⟩ := ltt_some hF
  refine lv_topi (fun zx66 ezx66 => ?_)
  obtain rfl : x66 = zx66 := ex66.trans ezx66.symm
  refine lv_bipush (v := (26 : Int32)) hx hb dX0_writeParameters_116 (by decide) ?_
  refine lv_isub hx hb dX0_writeParameters_118 ?_
  obtain ⟨x67, ex67, hF⟩ := ltt_some hF
  refine lv_topi (fun zx67 ezx67 => ?_)
  obtain rfl : x67 = zx67 := ex67.trans ezx67.symm
  obtain ⟨b68, ho68, hc68, hk68, hF⟩ := dr_some hF
  refine W_st (st' := [.int x67, .int (0 : Int32), .ref (ad63 b68)]) (by rw [va_some ho68]) ?_
  obtain ⟨y69, hy69, hF⟩ := bnd_some hF
  obtain ⟨w70, hF, ew70⟩ := app_some hF
  obtain ⟨L71, eL71, hF⟩ := ltt_some hF
  have hT71 : y.1 = (L62 ++ y69.1) ++ w70.1 := by rw [hT, ew70]; simp only [List.append_assoc]
  have hf9 := wA_in hD hA9 hS
  refine va_callv (va_runV (As := [.int (0 : Int32), .int x67]) (rest := []) ⟨hx, hb, hml, hown, hts⟩ (kX10_se l D ct ad63 Z (xt G L62) y60.2 _ b68 ((0 : Int32)) x67 y69 hc68 hk68 hy69) (cwV 2 hts gX0_writeParameters_X10_se rfl rfl rfl (by decide +kernel) ⟨Nat.le_of_ble_eq_true rfl, Nat.le_of_ble_eq_true rfl⟩) ⟨fun a U g mk q => by obtain ⟨q0, q1, qP, qK, qD, qZ, qN⟩ := q; exact ⟨q0, q1, qP, va_K.moved (u := U) (U := U.calling g mk a) (Vm.Alike.refl U.vm) qK, qD, sF.moved (u := U) (U := U.calling g mk a) (Vm.Alike.refl U.vm) qZ, nF.same rfl qN⟩, va_recv hK hP (ci := 10) (q0 := b68) rfl (wld_o ct ad63 (xt G L62) y60.2 hc68 hk68 (by decide)), fun U hU hW => ⟨rfl, by rw [hU], by rw [hU]; exact hP, va_K.moved hW.alike hK, hD.weaken (fun _ _ _ _ => trivial), by rw [hU]; exact ((hZ.kept hS.2.1).narrow hf9).moved hW.alike, hN.warm hW⟩⟩ rfl rfl hl.1 rfl (lv_room (Nat.le_of_ble_eq_true rfl)) dX0_writeParameters_119 (room_s hT71 hbl)) hS (fun q _ h => hf9 q h) hf9 (fun ad72 t H locs ht hvm hw hB hz1 hk1 hS => ?_)
  have hn73 := hw
  obtain ⟨hP, hK9, hD9⟩ := hB
  rw [ht] at hP
  have hD := hD9.weaken (fun _ q _ h => hf9 q.1 h)
  rw [xt_xt, ← eL71] at hP hD
  refine W_cs (k := L71.length) (n := wt L71) (by rw [eL71]; exact (len_s L62 y69.1).symm) (by rw [eL71]; exact (wt_app L62 y69.1).symm) ?_
  have hT : y.1 = L71 ++ w70.1 := by rw [hT71, eL71]
  have h2 : y.2 = w70.2 := by rw [h2, ew70]
  have hl := lv_sub (l' := [(0, .ref (ad63 a))]) hl [0] rfl
  have e9 : ([(0, .ref (ad63 a))] : List (Nat × Value)) = [(0, .ref (ad72 a))] := (by first | rfl | simp only [hn73 a hc])
  rw [e9] at hl
  clear e9
  have hk : (xt G L71).2.1 a = 0 := by rw [eL71]; exact xt_k _ hc hk
  have hc : a < (xt G L71).1 := by rw [eL71]; exact xt_l _ hc
  have hk2 : (xt G L71).2.1 b2 = 10 := by rw [eL71]; exact xt_k _ hc2 hk2
  have hc2 : b2 < (xt G L71).1 := by rw [eL71]; exact xt_l _ hc2
  have hk4 : (xt G L71).2.1 b4 = 10 := by rw [eL71]; exact xt_k _ hc4 hk4
  have hc4 : b4 < (xt G L71).1 := by rw [eL71]; exact xt_l _ hc4
  have hk10 : (xt G L71).2.1 b10 = 10 := by rw [eL71]; exact xt_k _ hc10 hk10
  have hc10 : b10 < (xt G L71).1 := by rw [eL71]; exact xt_l _ hc10
  have hk16 : (xt G L71).2.1 b16 = 13 := by rw [eL71]; exact xt_k _ hc16 hk16
  have hc16 : b16 < (xt G L71).1 := by rw [eL71]; exact xt_l _ hc16
  have hk28 : (xt G L71).2.1 b28 = 10 := by rw [eL71]; exact xt_k _ hc28 hk28
  have hc28 : b28 < (xt G L71).1 := by rw [eL71]; exact xt_l _ hc28
  have hk34 : (xt G L71).2.1 b34 = 13 := by rw [eL71]; exact xt_k _ hc34 hk34
  have hc34 : b34 < (xt G L71).1 := by rw [eL71]; exact xt_l _ hc34
  have hk37 : (xt G L71).2.1 b37 = 10 := by rw [eL71]; exact xt_k _ hc37 hk37
  have hc37 : b37 < (xt G L71).1 := by rw [eL71]; exact xt_l _ hc37
  have hk43 : (xt G L71).2.1 b43 = 10 := by rw [eL71]; exact xt_k _ hc43 hk43
  have hc43 : b43 < (xt G L71).1 := by rw [eL71]; exact xt_l _ hc43
  have hk49 : (xt G L71).2.1 b49 = 13 := by rw [eL71]; exact xt_k _ hc49 hk49
  have hc49 : b49 < (xt G L71).1 := by rw [eL71]; exact xt_l _ hc49
  have hk56 : (xt G L71).2.1 b56 = 13 := by rw [eL71]; exact xt_k _ hc56 hk56
  have hc56 : b56 < (xt G L71).1 := by rw [eL71]; exact xt_l _ hc56
  have hk59 : (xt G L71).2.1 b59 = 10 := by rw [eL71]; exact xt_k _ hc59 hk59
  have hc59 : b59 < (xt G L71).1 := by rw [eL71]; exact xt_l _ hc59
  have hk65 : (xt G L71).2.1 b65 = 13 := by rw [eL71]; exact xt_k _ hc65 hk65
  have hc65 : b65 < (xt G L71).1 := by rw [eL71]; exact xt_l _ hc65
  have hk68 : (xt G L71).2.1 b68 = 10 := by rw [eL71]; exact xt_k _ hc68 hk68
  have hc68 : b68 < (xt G L71).1 := by rw [eL71]; exact xt_l _ hc68
  have hag := agr_t (xt_ge _ _) hag hn73
  refine lv_aload_n hx hb dX0_writeParameters_122 rfl (lv_at hl 0 rfl) ?_
  refine va_get (D := D) (ci := 0) (v := va_re ad72 (y69.2.2 a 2)) (C := RX0) (T := TX0) (N := 21) hx hb hts (mus hf_X0) hown hK hP a (wld_o ct ad72 (xt G L71) y69.2 hc hk (by decide)) rfl 2 (by decide) (hts (.fieldLink RX0 29 "VideoSuite$Coder" "writer" "LVideoSuite$Writer;") (mu mw_815)) (fun _ h9 => h9) rfl dX0_writeParameters_123 ?_
  refine lv_iconst (v := (0 : Int32)) hx hb dX0_writeParameters_126 (by decide) ?_
  refine lv_iconst (v := (0 : Int32)) hx hb dX0_writeParameters_127 (by decide) ?_
  obtain ⟨b74, ho74, hc74, hk74, hF⟩ := dr_some hF
  refine W_st (st' := [.int (0 : Int32), .int (0 : Int32), .ref (ad72 b74)]) (by rw [va_some ho74]) ?_
  obtain ⟨y75, hy75, hF⟩ := bnd_some hF
  obtain ⟨w76, hF, ew76⟩ := app_some hF
  obtain ⟨L77, eL77, hF⟩ := ltt_some hF
  have hT77 : y.1 = (L71 ++ y75.1) ++ w76.1 := by rw [hT, ew76]; simp only [List.append_assoc]
  have hf9 := wA_in hD hA9 hS
  refine va_callv (va_runV (As := [.int (0 : Int32), .int (0 : Int32)]) (rest := []) ⟨hx, hb, hml, hown, hts⟩ (kX10_se l D ct ad72 Z (xt G L71) y69.2 _ b74 ((0 : Int32)) ((0 : Int32)) y75 hc74 hk74 hy75) (cwV 2 hts gX0_writeParameters_X10_se rfl rfl rfl (by decide +kernel) ⟨Nat.le_of_ble_eq_true rfl, Nat.le_of_ble_eq_true rfl⟩) ⟨fun a U g mk q => by obtain ⟨q0, q1, qP, qK, qD, qZ, qN⟩ := q; exact ⟨q0, q1, qP, va_K.moved (u := U) (U := U.calling g mk a) (Vm.Alike.refl U.vm) qK, qD, sF.moved (u := U) (U := U.calling g mk a) (Vm.Alike.refl U.vm) qZ, nF.same rfl qN⟩, va_recv hK hP (ci := 10) (q0 := b74) rfl (wld_o ct ad72 (xt G L71) y69.2 hc74 hk74 (by decide)), fun U hU hW => ⟨rfl, by rw [hU], by rw [hU]; exact hP, va_K.moved hW.alike hK, hD.weaken (fun _ _ _ _ => trivial), by rw [hU]; exact ((hZ.kept hS.2.1).narrow hf9).moved hW.alike, hN.warm hW⟩⟩ rfl rfl hl.1 rfl (lv_room (Nat.le_of_ble_eq_true rfl)) dX0_writeParameters_128 (room_s hT77 hbl)) hS (fun q _ h => hf9 q h) hf9 (fun ad78 t H locs ht hvm hw hB hz1 hk1 hS => ?_)
  have hn79 := hw
  obtain ⟨hP, hK9, hD9⟩ := hB
  rw [ht] at hP
  have hD := hD9.weaken (fun _ q _ h => hf9 q.1 h)
  rw [xt_xt, ← eL77] at hP hD
  refine W_cs (k := L77.length) (n := wt L77) (by rw [eL77]; exact (len_s L71 y75.1).symm) (by rw [eL77]; exact (wt_app L71 y75.1).symm) ?_
  have hT : y.1 = L77 ++ w76.1 := by rw [hT77, eL77]
  have h2 : y.2 = w76.2 := by rw [h2, ew76]
  have hl := lv_sub (l' := [(0, .ref (ad72 a))]) hl [0] rfl
  have e9 : ([(0, .ref (ad72 a))] : List (Nat × Value)) = [(0, .ref (ad78 a))] := (by first | rfl | simp only [hn79 a hc])
  rw [e9] at hl
  clear e9
  have hk : (xt G L77).2.1 a = 0 := by rw [eL77]; exact xt_k _ hc hk
  have hc : a < (xt G L77).1 := by rw [eL77]; exact xt_l _ hc
  have hk2 : (xt G L77).2.1 b2 = 10 := by rw [eL77]; exact xt_k _ hc2 hk2
  have hc2 : b2 < (xt G L77).1 := by rw [eL77]; exact xt_l _ hc2
  have hk4 : (xt G L77).2.1 b4 = 10 := by rw [eL77]; exact xt_k _ hc4 hk4
  have hc4 : b4 < (xt G L77).1 := by rw [eL77]; exact xt_l _ hc4
  have hk10 : (xt G L77).2.1 b10 = 10 := by rw [eL77]; exact xt_k _ hc10 hk10
  have hc10 : b10 < (xt G L77).1 := by rw [eL77]; exact xt_l _ hc10
  have hk16 : (xt G L77).2.1 b16 = 13 := by rw [eL77]; exact xt_k _ hc16 hk16
  have hc16 : b16 < (xt G L77).1 := by rw [eL77]; exact xt_l _ hc16
  have hk28 : (xt G L77).2.1 b28 = 10 := by rw [eL77]; exact xt_k _ hc28 hk28
  have hc28 : b28 < (xt G L77).1 := by rw [eL77]; exact xt_l _ hc28
  have hk34 : (xt G L77).2.1 b34 = 13 := by rw [eL77]; exact xt_k _ hc34 hk34
  have hc34 : b34 < (xt G L77).1 := by rw [eL77]; exact xt_l _ hc34
  have hk37 : (xt G L77).2.1 b37 = 10 := by rw [eL77]; exact xt_k _ hc37 hk37
  have hc37 : b37 < (xt G L77).1 := by rw [eL77]; exact xt_l _ hc37
  have hk43 : (xt G L77).2.1 b43 = 10 := by rw [eL77]; exact xt_k _ hc43 hk43
  have hc43 : b43 < (xt G L77).1 := by rw [eL77]; exact xt_l _ hc43
  have hk49 : (xt G L77).2.1 b49 = 13 := by rw [eL77]; exact xt_k _ hc49 hk49
  have hc49 : b49 < (xt G L77).1 := by rw [eL77]; exact xt_l _ hc49
  have hk56 : (xt G L77).2.1 b56 = 13 := by rw [eL77]; exact xt_k _ hc56 hk56
  have hc56 : b56 < (xt G L77).1 := by rw [eL77]; exact xt_l _ hc56
  have hk59 : (xt G L77).2.1 b59 = 10 := by rw [eL77]; exact xt_k _ hc59 hk59
  have hc59 : b59 < (xt G L77).1 := by rw [eL77]; exact xt_l _ hc59
  have hk65 : (xt G L77).2.1 b65 = 13 := by rw [eL77]; exact xt_k _ hc65 hk65
  have hc65 : b65 < (xt G L77).1 := by rw [eL77]; exact xt_l _ hc65
  have hk68 : (xt G L77).2.1 b68 = 10 := by rw [eL77]; exact xt_k _ hc68 hk68
  have hc68 : b68 < (xt G L77).1 := by rw [eL77]; exact xt_l _ hc68
  have hk74 : (xt G L77).2.1 b74 = 10 := by rw [eL77]; exact xt_k _ hc74 hk74
  have hc74 : b74 < (xt G L77).1 := by rw [eL77]; exact xt_l _ hc74
  have hag := agr_t (xt_ge _ _) hag hn79
  refine lv_aload_n hx hb dX0_writeParameters_131 rfl (lv_at hl 0 rfl) ?_
  refine va_get (D := D) (ci := 0) (v := va_re ad78 (y75.2.2 a 2)) (C := RX0) (T := TX0) (N := 21) hx hb hts (mus hf_X0) hown hK hP a (wld_o ct ad78 (xt G L77) y75.2 hc hk (by decide)) rfl 2 (by decide) (hts (.fieldLink RX0 29 "VideoSuite$Coder" "writer" "LVideoSuite$Writer;") (mu mw_815)) (fun _ h9 => h9) rfl dX0_writeParameters_132 ?_
  refine lv_iconst (v := (0 : Int32)) hx hb dX0_writeParameters_135 (by decide) ?_
  refine lv_aload_n hx hb dX0_writeParameters_136 rfl (lv_at hl 0 rfl) ?_
  refine va_get (D := D) (ci := 0) (v := va_re ad78 (y75.2.2 a 1)) (C := RX0) (T := TX0) (N := 21) hx hb hts (mus hf_X0) hown hK hP a (wld_o ct ad78 (xt G L77) y75.2 hc hk (by decide)) rfl 1 (by decide) (hts (.fieldLink RX0 23 "VideoSuite$Coder" "now" "[I") (mu mw_813)) (fun _ h9 => h9) rfl dX0_writeParameters_137 ?_
  refine lv_bipush (v := (23 : Int32)) hx hb dX0_writeParameters_140 (by decide) ?_
  obtain ⟨b80, ho80, hc80, hk80, hF⟩ := dr_some hF
  refine W_st (st' := [.int (23 : Int32), .ref (ad78 b80), .int (0 : Int32), va_re ad78 (y75.2.2 a 2)]) (by rw [va_some ho80]) ?_
  obtain ⟨hvc, hF⟩ := chk_some hF
  refine va_iald hx hb hK hP b80 1 (wld_i ct ad78 (xt G L77) y75.2 hc80 hk80) rfl hvc dX0_writeParameters_142 ?_
  obtain ⟨x81, ex81, hF⟩ := ltt_some hF
  refine lv_topi (fun zx81 ezx81 => ?_)
  obtain rfl : x81 = zx81 := ex81.trans ezx81.symm
  obtain ⟨b82, ho82, hc82, hk82, hF⟩ := dr_some hF
  refine W_st (st' := [.int x81, .int (0 : Int32), .ref (ad78 b82)]) (by rw [va_some ho82]) ?_
  obtain ⟨y83, hy83, hF⟩ := bnd_some hF
  obtain ⟨w84, hF, ew84⟩ := app_some hF
  obtain ⟨L85, eL85, hF⟩ := ltt_some hF
  have hT85 : y.1 = (L77 ++ y83.1) ++ w84.1 := by rw [hT, ew84]; simp only [List.append_assoc]
  have hf9 := wA_in hD hA9 hS
  refine va_callv (va_runV (As := [.int (0 : Int32), .int x81]) (rest := []) ⟨hx, hb, hml, hown, hts⟩ (kX10_se l D ct ad78 Z (xt G L77) y75.2 _ b82 ((0 : Int32)) x81 y83 hc82 hk82 hy83) (cwV 2 hts gX0_writeParameters_X10_se rfl rfl rfl (by decide +kernel) ⟨Nat.le_of_ble_eq_true rfl, Nat.le_of_ble_eq_true rfl⟩) ⟨fun a U g mk q => by obtain ⟨q0, q1, qP, qK, qD, qZ, qN⟩ := q; exact ⟨q0, q1, qP, va_K.moved (u := U) (U := U.calling g mk a) (Vm.Alike.refl U.vm) qK, qD, sF.moved (u := U) (U := U.calling g mk a) (Vm.Alike.refl U.vm) qZ, nF.same rfl qN⟩, va_recv hK hP (ci := 10) (q0 := b82) rfl (wld_o ct ad78 (xt G L77) y75.2 hc82 hk82 (by decide)), fun U hU hW => ⟨rfl, by rw [hU], by rw [hU]; exact hP, va_K.moved hW.alike hK, hD.weaken (fun _ _ _ _ => trivial), by rw [hU]; exact ((hZ.kept hS.2.1).narrow hf9).moved hW.alike, hN.warm hW⟩⟩ rfl rfl hl.1 rfl (lv_room (Nat.le_of_ble_eq_true rfl)) dX0_writeParameters_143 (room_s hT85 hbl)) hS (fun q _ h => hf9 q h) hf9 (fun ad86 t H locs ht hvm hw hB hz1 hk1 hS => ?_)
  have hn87 := hw
  obtain ⟨hP, hK9, hD9⟩ := hB
  rw [ht] at hP
  have hD := hD9.weaken (fun _ q _ h => hf9 q.1 h)
  rw [xt_xt, ← eL85] at hP hD
  refine W_cs (k := L85.length) (n := wt L85) (by rw [eL85]; exact (len_s L77 y83.1).symm) (by rw [eL85]; exact (wt_app L77 y83.1).symm) ?_
  have hT : y.1 = L85 ++ w84.1 := by rw [hT85, eL85]
  have h2 : y.2 = w84.2 := by rw [h2, ew84]
  have hl := lv_sub (l' := [(0, .ref (ad78 a))]) hl [0] rfl
  have e9 : ([(0, .ref (ad78 a))] : List (Nat × Value)) = [(0, .ref (ad86 a))] := (by first | rfl | simp only [hn87 a hc])
  rw [e9] at hl
  clear e9
  have hk : (xt G L85).2.1 a = 0 := by rw [eL85]; exact xt_k _ hc hk
  have hc : a < (xt G L85).1 := by rw [eL85]; exact xt_l _ hc
  have hk2 : (xt G L85).2.1 b2 = 10 := by rw [eL85]; exact xt_k _ hc2 hk2
  have hc2 : b2 < (xt G L85).1 := by rw [eL85]; exact xt_l _ hc2
  have hk4 : (xt G L85).2.1 b4 = 10 := by rw [eL85]; exact xt_k _ hc4 hk4
  have hc4 : b4 < (xt G L85).1 := by rw [eL85]; exact xt_l _ hc4
  have hk10 : (xt G L85).2.1 b10 = 10 := by rw [eL85]; exact xt_k _ hc10 hk10
  have hc10 : b10 < (xt G L85).1 := by rw [eL85]; exact xt_l _ hc10
  have hk16 : (xt G L85).2.1 b16 = 13 := by rw [eL85]; exact xt_k _ hc16 hk16
  have hc16 : b16 < (xt G L85).1 := by rw [eL85]; exact xt_l _ hc16
  have hk28 : (xt G L85).2.1 b28 = 10 := by rw [eL85]; exact xt_k _ hc28 hk28
  have hc28 : b28 < (xt G L85).1 := by rw [eL85]; exact xt_l _ hc28
  have hk34 : (xt G L85).2.1 b34 = 13 := by rw [eL85]; exact xt_k _ hc34 hk34
  have hc34 : b34 < (xt G L85).1 := by rw [eL85]; exact xt_l _ hc34
  have hk37 : (xt G L85).2.1 b37 = 10 := by rw [eL85]; exact xt_k _ hc37 hk37
  have hc37 : b37 < (xt G L85).1 := by rw [eL85]; exact xt_l _ hc37
  have hk43 : (xt G L85).2.1 b43 = 10 := by rw [eL85]; exact xt_k _ hc43 hk43
  have hc43 : b43 < (xt G L85).1 := by rw [eL85]; exact xt_l _ hc43
  have hk49 : (xt G L85).2.1 b49 = 13 := by rw [eL85]; exact xt_k _ hc49 hk49
  have hc49 : b49 < (xt G L85).1 := by rw [eL85]; exact xt_l _ hc49
  have hk56 : (xt G L85).2.1 b56 = 13 := by rw [eL85]; exact xt_k _ hc56 hk56
  have hc56 : b56 < (xt G L85).1 := by rw [eL85]; exact xt_l _ hc56
  have hk59 : (xt G L85).2.1 b59 = 10 := by rw [eL85]; exact xt_k _ hc59 hk59
  have hc59 : b59 < (xt G L85).1 := by rw [eL85]; exact xt_l _ hc59
  have hk65 : (xt G L85).2.1 b65 = 13 := by rw [eL85]; exact xt_k _ hc65 hk65
  have hc65 : b65 < (xt G L85).1 := by rw [eL85]; exact xt_l _ hc65
  have hk68 : (xt G L85).2.1 b68 = 10 := by rw [eL85]; exact xt_k _ hc68 hk68
  have hc68 : b68 < (xt G L85).1 := by rw [eL85]; exact xt_l _ hc68
  have hk74 : (xt G L85).2.1 b74 = 10 := by rw [eL85]; exact xt_k _ hc74 hk74
  have hc74 : b74 < (xt G L85).1 := by rw [eL85]; exact xt_l _ hc74
  have hk80 : (xt G L85).2.1 b80 = 13 := by rw [eL85]; exact xt_k _ hc80 hk80
  have hc80 : b80 < (xt G L85).1 := by rw [eL85]; exact xt_l _ hc80
  have hk82 : (xt G L85).2.1 b82 = 10 := by rw [eL85]; exact xt_k _ hc82 hk82
  have hc82 : b82 < (xt G L85).1 := by rw [eL85]; exact xt_l _ hc82
  have hag := agr_t (xt_ge _ _) hag hn87
  refine lv_aload_n hx hb dX0_writeParameters_146 rfl (lv_at hl 0 rfl) ?_
  refine lv_iconst (v := (1 : Int32)) hx hb dX0_writeParameters_147 (by decide) ?_
  obtain ⟨y88, hy88, hF⟩ := bnd_some hF
  obtain ⟨w89, hF, ew89⟩ := app_some hF
  obtain ⟨L90, eL90, hF⟩ := ltt_some hF
  have hT90 : y.1 = (L85 ++ y88.1) ++ w89.1 := by rw [hT, ew89]; simp only [List.append_assoc]
  have hf9 := wA_in hD hA9 hS
  refine va_callv (va_runV (As := [.int (1 : Int32)]) (rest := []) ⟨hx, hb, hml, hown, hts⟩ (kX0_flag l D ct ad86 Z (xt G L85) y83.2 _ a ((1 : Int32)) y88 hc hk hy88) (cwV 1 hts gX0_writeParameters_X0_flag rfl rfl rfl (by decide +kernel) ⟨Nat.le_of_ble_eq_true rfl, Nat.le_of_ble_eq_true rfl⟩) ⟨fun a U g mk q => by obtain ⟨q0, q1, qP, qK, qD, qZ, qN⟩ := q; exact ⟨q0, q1, qP, va_K.moved (u := U) (U := U.calling g mk a) (Vm.Alike.refl U.vm) qK, qD, sF.moved (u := U) (U := U.calling g mk a) (Vm.Alike.refl U.vm) qZ, nF.same rfl qN⟩, va_recv hK hP (ci := 0) (q0 := a) rfl (wld_o ct ad86 (xt G L85) y83.2 hc hk (by decide)), fun U hU hW => ⟨rfl, by rw [hU], by rw [hU]; exact hP, va_K.moved hW.alike hK, hD.weaken (fun _ _ _ _ => trivial), by rw [hU]; exact ((hZ.kept hS.2.1).narrow hf9).moved hW.alike, hN.warm hW⟩⟩ rfl rfl hl.1 rfl (lv_room (Nat.le_of_ble_eq_true rfl)) dX0_writeParameters_148 (room_s hT90 hbl)) hS (fun q _ h => hf9 q h) hf9 (fun ad91 t H locs ht hvm hw hB hz1 hk1 hS => ?_)
  have hn92 := hw
  obtain ⟨hP, hK9, hD9⟩ := hB
  rw [ht] at hP
  have hD := hD9.weaken (fun _ q _ h => hf9 q.1 h)
  rw [xt_xt, ← eL90] at hP hD
  refine W_cs (k := L90.length) (n := wt L90) (by rw [eL90]; exact (len_s L85 y88.1).symm) (by rw [eL90]; exact (wt_app L85 y88.1).symm) ?_
  have hT : y.1 = L90 ++ w89.1 := by rw [hT90, eL90]
  have h2 : y.2 = w89.2 := by rw [h2, ew89]
  have hl := lv_sub (l' := [(0, .ref (ad86 a))]) hl [0] rfl
  have e9 : ([(0, .ref (ad86 a))] : List (Nat × Value)) = [(0, .ref (ad91 a))] := (by first | rfl | simp only [hn92 a hc])
  rw [e9] at hl
  clear e9
  have hk : (xt G L90).2.1 a = 0 := by rw [eL90]; exact xt_k _ hc hk
  have hc : a < (xt G L90).1 := by rw [eL90]; exact xt_l _ hc
  have hk2 : (xt G L90).2.1 b2 = 10 := by rw [eL90]; exact xt_k _ hc2 hk2
  have hc2 : b2 < (xt G L90).1 := by rw [eL90]; exact xt_l _ hc2
  have hk4 : (xt G L90).2.1 b4 = 10 := by rw [eL90]; exact xt_k _ hc4 hk4
  have hc4 : b4 < (xt G L90).1 := by rw [eL90]; exact xt_l _ hc4
  have hk10 : (xt G L90).2.1 b10 = 10 := by rw [eL90]; exact xt_k _ hc10 hk10
  have hc10 : b10 < (xt G L90).1 := by rw [eL90]; exact xt_l _ hc10
  have hk16 : (xt G L90).2.1 b16 = 13 := by rw [eL90]; exact xt_k _ hc16 hk16
  have hc16 : b16 < (xt G L90).1 := by rw [eL90]; exact xt_l _ hc16
  have hk28 : (xt G L90).2.1 b28 = 10 := by rw [eL90]; exact xt_k _ hc28 hk28
  have hc28 : b28 < (xt G L90).1 := by rw [eL90]; exact xt_l _ hc28
  have hk34 : (xt G L90).2.1 b34 = 13 := by rw [eL90]; exact xt_k _ hc34 hk34
  have hc34 : b34 < (xt G L90).1 := by rw [eL90]; exact xt_l _ hc34
  have hk37 : (xt G L90).2.1 b37 = 10 := by rw [eL90]; exact xt_k _ hc37 hk37
  have hc37 : b37 < (xt G L90).1 := by rw [eL90]; exact xt_l _ hc37
  have hk43 : (xt G L90).2.1 b43 = 10 := by rw [eL90]; exact xt_k _ hc43 hk43
  have hc43 : b43 < (xt G L90).1 := by rw [eL90]; exact xt_l _ hc43
  have hk49 : (xt G L90).2.1 b49 = 13 := by rw [eL90]; exact xt_k _ hc49 hk49
  have hc49 : b49 < (xt G L90).1 := by rw [eL90]; exact xt_l _ hc49
  have hk56 : (xt G L90).2.1 b56 = 13 := by rw [eL90]; exact xt_k _ hc56 hk56
  have hc56 : b56 < (xt G L90).1 := by rw [eL90]; exact xt_l _ hc56
  have hk59 : (xt G L90).2.1 b59 = 10 := by rw [eL90]; exact xt_k _ hc59 hk59
  have hc59 : b59 < (xt G L90).1 := by rw [eL90]; exact xt_l _ hc59
  have hk65 : (xt G L90).2.1 b65 = 13 := by rw [eL90]; exact xt_k _ hc65 hk65
  have hc65 : b65 < (xt G L90).1 := by rw [eL90]; exact xt_l _ hc65
  have hk68 : (xt G L90).2.1 b68 = 10 := by rw [eL90]; exact xt_k _ hc68 hk68
  have hc68 : b68 < (xt G L90).1 := by rw [eL90]; exact xt_l _ hc68
  have hk74 : (xt G L90).2.1 b74 = 10 := by rw [eL90]; exact xt_k _ hc74 hk74
  have hc74 : b74 < (xt G L90).1 := by rw [eL90]; exact xt_l _ hc74
  have hk80 : (xt G L90).2.1 b80 = 13 := by rw [eL90]; exact xt_k _ hc80 hk80
  have hc80 : b80 < (xt G L90).1 := by rw [eL90]; exact xt_l _ hc80
  have hk82 : (xt G L90).2.1 b82 = 10 := by rw [eL90]; exact xt_k _ hc82 hk82
  have hc82 : b82 < (xt G L90).1 := by rw [eL90]; exact xt_l _ hc82
  have hag := agr_t (xt_ge _ _) hag hn92
  refine lv_aload_n hx hb dX0_writeParameters_151 rfl (lv_at hl 0 rfl) ?_
  refine lv_aload_n hx hb dX0_writeParameters_152 rfl (lv_at hl 0 rfl) ?_
  refine va_get (D := D) (ci := 0) (v := va_re ad91 (y88.2.2 a 1)) (C := RX0) (T := TX0) (N := 21) hx hb hts (mus hf_X0) hown hK hP a (wld_o ct ad91 (xt G L90) y88.2 hc hk (by decide)) rfl 1 (by decide) (hts (.fieldLink RX0 23 "VideoSuite$Coder" "now" "[I") (mu mw_813)) (fun _ h9 => h9) rfl dX0_writeParameters_153 ?_
  refine lv_bipush (v := (19 : Int32)) hx hb dX0_writeParameters_156 (by decide) ?_
  obtain ⟨b93, ho93, hc93, hk93, hF⟩ := dr_some hF
  refine W_st (st' := [.int (19 : Int32), .ref (ad91 b93), .ref (ad91 a)]) (by rw [va_some ho93]) ?_
  obtain ⟨hvc, hF⟩ := chk_some hF
  refine va_iald hx hb hK hP b93 1 (wld_i ct ad91 (xt G L90) y88.2 hc93 hk93) rfl hvc dX0_writeParameters_158 ?_
  obtain ⟨x94, ex94, hF⟩ := ltt_some hF
  refine lv_topi (fun zx94 ezx94 => ?_)
  obtain rfl : x94 = zx94 := ex94.trans ezx94.symm
  obtain ⟨y95, hy95, hF⟩ := bnd_some hF
  obtain ⟨w96, hF, ew96⟩ := app_some hF
  obtain ⟨L97, eL97, hF⟩ := ltt_some hF
  have hT97 : y.1 = (L90 ++ y95.1) ++ w96.1 := by rw [hT, ew96]; simp only [List.append_assoc]
  have hf9 := wA_in hD hA9 hS
  refine va_callv (va_runV (As := [.int x94]) (rest := []) ⟨hx, hb, hml, hown, hts⟩ (kX0_flag l D ct ad91 Z (xt G L90) y88.2 _ a x94 y95 hc hk hy95) (cwV 1 hts gX0_writeParameters_X0_flag rfl rfl rfl (by decide +kernel) ⟨Nat.le_of_ble_eq_true rfl, Nat.le_of_ble_eq_true rfl⟩) ⟨fun a U g mk q => by obtain ⟨q0, q1, qP, qK, qD, qZ, qN⟩ := q; exact ⟨q0, q1, qP, va_K.moved (u := U) (U := U.calling g mk a) (Vm.Alike.refl U.vm) qK, qD, sF.moved (u := U) (U := U.calling g mk a) (Vm.Alike.refl U.vm) qZ, nF.same rfl qN⟩, va_recv hK hP (ci := 0) (q0 := a) rfl (wld_o ct ad91 (xt G L90) y88.2 hc hk (by decide)), fun U hU hW => ⟨rfl, by rw [hU], by rw [hU]; exact hP, va_K.moved hW.alike hK, hD.weaken (fun _ _ _ _ => trivial), by rw [hU]; exact ((hZ.kept hS.2.1).narrow hf9).moved hW.alike, hN.warm hW⟩⟩ rfl rfl hl.1 rfl (lv_room (Nat.le_of_ble_eq_true rfl)) dX0_writeParameters_159 (room_s hT97 hbl)) hS (fun q _ h => hf9 q h) hf9 (fun ad98 t H locs ht hvm hw hB hz1 hk1 hS => ?_)
  have hn99 := hw
  obtain ⟨hP, hK9, hD9⟩ := hB
  rw [ht] at hP
  have hD := hD9.weaken (fun _ q _ h => hf9 q.1 h)
  rw [xt_xt, ← eL97] at hP hD
  refine W_cs (k := L97.length) (n := wt L97) (by rw [eL97]; exact (len_s L90 y95.1).symm) (by rw [eL97]; exact (wt_app L90 y95.1).symm) ?_
  have hT : y.1 = L97 ++ w96.1 := by rw [hT97, eL97]
  have h2 : y.2 = w96.2 := by rw [h2, ew96]
  have hl := lv_sub (l' := [(0, .ref (ad91 a))]) hl [0] rfl
  have e9 : ([(0, .ref (ad91 a))] : List (Nat × Value)) = [(0, .ref (ad98 a))] := (by first | rfl | simp only [hn99 a hc])
  rw [e9] at hl
  clear e9
  have hk : (xt G L97).2.1 a = 0 := by rw [eL97]; exact xt_k _ hc hk
  have hc : a < (xt G L97).1 := by rw [eL97]; exact xt_l _ hc
  have hk2 : (xt G L97).2.1 b2 = 10 := by rw [eL97]; exact xt_k _ hc2 hk2
  have hc2 : b2 < (xt G L97).1 := by rw [eL97]; exact xt_l _ hc2
  have hk4 : (xt G L97).2.1 b4 = 10 := by rw [eL97]; exact xt_k _ hc4 hk4
  have hc4 : b4 < (xt G L97).1 := by rw [eL97]; exact xt_l _ hc4
  have hk10 : (xt G L97).2.1 b10 = 10 := by rw [eL97]; exact xt_k _ hc10 hk10
  have hc10 : b10 < (xt G L97).1 := by rw [eL97]; exact xt_l _ hc10
  have hk16 : (xt G L97).2.1 b16 = 13 := by rw [eL97]; exact xt_k _ hc16 hk16
  have hc16 : b16 < (xt G L97).1 := by rw [eL97]; exact xt_l _ hc16
  have hk28 : (xt G L97).2.1 b28 = 10 := by rw [eL97]; exact xt_k _ hc28 hk28
  have hc28 : b28 < (xt G L97).1 := by rw [eL97]; exact xt_l _ hc28
  have hk34 : (xt G L97).2.1 b34 = 13 := by rw [eL97]; exact xt_k _ hc34 hk34
  have hc34 : b34 < (xt G L97).1 := by rw [eL97]; exact xt_l _ hc34
  have hk37 : (xt G L97).2.1 b37 = 10 := by rw [eL97]; exact xt_k _ hc37 hk37
  have hc37 : b37 < (xt G L97).1 := by rw [eL97]; exact xt_l _ hc37
  have hk43 : (xt G L97).2.1 b43 = 10 := by rw [eL97]; exact xt_k _ hc43 hk43
  have hc43 : b43 < (xt G L97).1 := by rw [eL97]; exact xt_l _ hc43
  have hk49 : (xt G L97).2.1 b49 = 13 := by rw [eL97]; exact xt_k _ hc49 hk49
  have hc49 : b49 < (xt G L97).1 := by rw [eL97]; exact xt_l _ hc49
  have hk56 : (xt G L97).2.1 b56 = 13 := by rw [eL97]; exact xt_k _ hc56 hk56
  have hc56 : b56 < (xt G L97).1 := by rw [eL97]; exact xt_l _ hc56
  have hk59 : (xt G L97).2.1 b59 = 10 := by rw [eL97]; exact xt_k _ hc59 hk59
  have hc59 : b59 < (xt G L97).1 := by rw [eL97]; exact xt_l _ hc59
  have hk65 : (xt G L97).2.1 b65 = 13 := by rw [eL97]; exact xt_k _ hc65 hk65
  have hc65 : b65 < (xt G L97).1 := by rw [eL97]; exact xt_l _ hc65
  have hk68 : (xt G L97).2.1 b68 = 10 := by rw [eL97]; exact xt_k _ hc68 hk68
  have hc68 : b68 < (xt G L97).1 := by rw [eL97]; exact xt_l _ hc68
  have hk74 : (xt G L97).2.1 b74 = 10 := by rw [eL97]; exact xt_k _ hc74 hk74
  have hc74 : b74 < (xt G L97).1 := by rw [eL97]; exact xt_l _ hc74
  have hk80 : (xt G L97).2.1 b80 = 13 := by rw [eL97]; exact xt_k _ hc80 hk80
  have hc80 : b80 < (xt G L97).1 := by rw [eL97]; exact xt_l _ hc80
  have hk82 : (xt G L97).2.1 b82 = 10 := by rw [eL97]; exact xt_k _ hc82 hk82
  have hc82 : b82 < (xt G L97).1 := by rw [eL97]; exact xt_l _ hc82
  have hk93 : (xt G L97).2.1 b93 = 13 := by rw [eL97]; exact xt_k _ hc93 hk93
  have hc93 : b93 < (xt G L97).1 := by rw [eL97]; exact xt_l _ hc93
  have hag := agr_t (xt_ge _ _) hag hn99
  refine lv_aload_n hx hb dX0_writeParameters_162 rfl (lv_at hl 0 rfl) ?_
  refine lv_iconst (v := (0 : Int32)) hx hb dX0_writeParameters_163 (by decide) ?_
  obtain ⟨y100, hy100, hF⟩ := bnd_some hF
  obtain ⟨w101, hF, ew101⟩ := app_some hF
  obtain ⟨L102, eL102, hF⟩ := ltt_some hF
  have hT102 : y.1 = (L97 ++ y100.1) ++ w101.1 := by rw [hT, ew101]; simp only [List.append_assoc]
  have hf9 := wA_in hD hA9 hS
  refine va_callv (va_runV (As := [.int (0 : Int32)]) (rest := []) ⟨hx, hb, hml, hown, hts⟩ (kX0_flag l D ct ad98 Z (xt G L97) y95.2 _ a ((0 : Int32)) y100 hc hk hy100) (cwV 1 hts gX0_writeParameters_X0_flag rfl rfl rfl (by decide +kernel) ⟨Nat.le_of_ble_eq_true rfl, Nat.le_of_ble_eq_true rfl⟩) ⟨fun a U g mk q => by obtain ⟨q0, q1, qP, qK, qD, qZ, qN⟩ := q; exact ⟨q0, q1, qP, va_K.moved (u := U) (U := U.calling g mk a) (Vm.Alike.refl U.vm) qK, qD, sF.moved (u := U) (U := U.calling g mk a) (Vm.Alike.refl U.vm) qZ, nF.same rfl qN⟩, va_recv hK hP (ci := 0) (q0 := a) rfl (wld_o ct ad98 (xt G L97) y95.2 hc hk (by decide)), fun U hU hW => ⟨rfl, by rw [hU], by rw [hU]; exact hP, va_K.moved hW.alike hK, hD.weaken (fun _ _ _ _ => trivial), by rw [hU]; exact ((hZ.kept hS.2.1).narrow hf9).moved hW.alike, hN.warm hW⟩⟩ rfl rfl hl.1 rfl (lv_room (Nat.le_of_ble_eq_true rfl)) dX0_writeParameters_164 (room_s hT102 hbl)) hS (fun q _ h => hf9 q h) hf9 (fun ad103 t H locs ht hvm hw hB hz1 hk1 hS => ?_)
  have hn104 := hw
  obtain ⟨hP, hK9, hD9⟩ := hB
  rw [ht] at hP
  have hD := hD9.weaken (fun _ q _ h => hf9 q.1 h)
  rw [xt_xt, ← eL102] at hP hD
  refine W_cs (k := L102.length) (n := wt L102) (by rw [eL102]; exact (len_s L97 y100.1).symm) (by rw [eL102]; exact (wt_app L97 y100.1).symm) ?_
  have hT : y.1 = L102 ++ w101.1 := by rw [hT102, eL102]
  have h2 : y.2 = w101.2 := by rw [h2, ew101]
  have hl := lv_sub (l' := [(0, .ref (ad98 a))]) hl [0] rfl
  have e9 : ([(0, .ref (ad98 a))] : List (Nat × Value)) = [(0, .ref (ad103 a))] := (by first | rfl | simp only [hn104 a hc])
  rw [e9] at hl
  clear e9
  have hk : (xt G L102).2.1 a = 0 := by rw [eL102]; exact xt_k _ hc hk
  have hc : a < (xt G L102).1 := by rw [eL102]; exact xt_l _ hc
  have hk2 : (xt G L102).2.1 b2 = 10 := by rw [eL102]; exact xt_k _ hc2 hk2
  have hc2 : b2 < (xt G L102).1 := by rw [eL102]; exact xt_l _ hc2
  have hk4 : (xt G L102).2.1 b4 = 10 := by rw [eL102]; exact xt_k _ hc4 hk4
  have hc4 : b4 < (xt G L102).1 := by rw [eL102]; exact xt_l _ hc4
  have hk10 : (xt G L102).2.1 b10 = 10 := by rw [eL102]; exact xt_k _ hc10 hk10
  have hc10 : b10 < (xt G L102).1 := by rw [eL102]; exact xt_l _ hc10
  have hk16 : (xt G L102).2.1 b16 = 13 := by rw [eL102]; exact xt_k _ hc16 hk16
  have hc16 : b16 < (xt G L102).1 := by rw [eL102]; exact xt_l _ hc16
  have hk28 : (xt G L102).2.1 b28 = 10 := by rw [eL102]; exact xt_k _ hc28 hk28
  have hc28 : b28 < (xt G L102).1 := by rw [eL102]; exact xt_l _ hc28
  have hk34 : (xt G L102).2.1 b34 = 13 := by rw [eL102]; exact xt_k _ hc34 hk34
  have hc34 : b34 < (xt G L102).1 := by rw [eL102]; exact xt_l _ hc34
  have hk37 : (xt G L102).2.1 b37 = 10 := by rw [eL102]; exact xt_k _ hc37 hk37
  have hc37 : b37 < (xt G L102).1 := by rw [eL102]; exact xt_l _ hc37
  have hk43 : (xt G L102).2.1 b43 = 10 := by rw [eL102]; exact xt_k _ hc43 hk43
  have hc43 : b43 < (xt G L102).1 := by rw [eL102]; exact xt_l _ hc43
  have hk49 : (xt G L102).2.1 b49 = 13 := by rw [eL102]; exact xt_k _ hc49 hk49
  have hc49 : b49 < (xt G L102).1 := by rw [eL102]; exact xt_l _ hc49
  have hk56 : (xt G L102).2.1 b56 = 13 := by rw [eL102]; exact xt_k _ hc56 hk56
  have hc56 : b56 < (xt G L102).1 := by rw [eL102]; exact xt_l _ hc56
  have hk59 : (xt G L102).2.1 b59 = 10 := by rw [eL102]; exact xt_k _ hc59 hk59
  have hc59 : b59 < (xt G L102).1 := by rw [eL102]; exact xt_l _ hc59
  have hk65 : (xt G L102).2.1 b65 = 13 := by rw [eL102]; exact xt_k _ hc65 hk65
  have hc65 : b65 < (xt G L102).1 := by rw [eL102]; exact xt_l _ hc65
  have hk68 : (xt G L102).2.1 b68 = 10 := by rw [eL102]; exact xt_k _ hc68 hk68
  have hc68 : b68 < (xt G L102).1 := by rw [eL102]; exact xt_l _ hc68
  have hk74 : (xt G L102).2.1 b74 = 10 := by rw [eL102]; exact xt_k _ hc74 hk74
  have hc74 : b74 < (xt G L102).1 := by rw [eL102]; exact xt_l _ hc74
  have hk80 : (xt G L102).2.1 b80 = 13 := by rw [eL102]; exact xt_k _ hc80 hk80
  have hc80 : b80 < (xt G L102).1 := by rw [eL102]; exact xt_l _ hc80
  have hk82 : (xt G L102).2.1 b82 = 10 := by rw [eL102]; exact xt_k _ hc82 hk82
  have hc82 : b82 < (xt G L102).1 := by rw [eL102]; exact xt_l _ hc82
  have hk93 : (xt G L102).2.1 b93 = 13 := by rw [eL102]; exact xt_k _ hc93 hk93
  have hc93 : b93 < (xt G L102).1 := by rw [eL102]; exact xt_l _ hc93
  have hag := agr_t (xt_ge _ _) hag hn104
  refine lv_aload_n hx hb dX0_writeParameters_167 rfl (lv_at hl 0 rfl) ?_
  refine va_get (D := D) (ci := 0) (v := va_re ad103 (y100.2.2 a 2)) (C := RX0) (T := TX0) (N := 21) hx hb hts (mus hf_X0) hown hK hP a (wld_o ct ad103 (xt G L102) y100.2 hc hk (by decide)) rfl 2 (by decide) (hts (.fieldLink RX0 29 "VideoSuite$Coder" "writer" "LVideoSuite$Writer;") (mu mw_815)) (fun _ h9 => h9) rfl dX0_writeParameters_168 ?_
  refine lv_iconst (v := (0 : Int32)) hx hb dX0_writeParameters_171 (by decide) ?_
  obtain ⟨b105, ho105, hc105, hk105, hF⟩ := dr_some hF
  refine W_st (st' := [.int (0 : Int32), .ref (ad103 b105)]) (by rw [va_some ho105]) ?_
  obtain ⟨y106, hy106, hF⟩ := bnd_some hF
  obtain ⟨w107, hF, ew107⟩ := app_some hF
  obtain ⟨L108, eL108, hF⟩ := ltt_some hF
  have hT108 : y.1 = (L102 ++ y106.1) ++ w107.1 := by rw [hT, ew107]; simp only [List.append_assoc]
  have hf9 := wA_in hD hA9 hS
  refine va_callv (va_runV (As := [.int (0 : Int32)]) (rest := []) ⟨hx, hb, hml, hown, hts⟩ (kX10_endUnit l D ct ad103 Z (xt G L102) y100.2 _ b105 ((0 : Int32)) y106 hc105 hk105 hy106) (cwV 1 hts gX0_writeParameters_X10_endUnit rfl rfl rfl (by decide +kernel) ⟨Nat.le_of_ble_eq_true rfl, Nat.le_of_ble_eq_true rfl⟩) ⟨fun a U g mk q => by obtain ⟨q0, q1, qP, qK, qD, qZ, qN⟩ := q; exact ⟨q0, q1, qP, va_K.moved (u := U) (U := U.calling g mk a) (Vm.Alike.refl U.vm) qK, qD, sF.moved (u := U) (U := U.calling g mk a) (Vm.Alike.refl U.vm) qZ, nF.same rfl qN⟩, va_recv hK hP (ci := 10) (q0 := b105) rfl (wld_o ct ad103 (xt G L102) y100.2 hc105 hk105 (by decide)), fun U hU hW => ⟨rfl, by rw [hU], by rw [hU]; exact hP, va_K.moved hW.alike hK, hD.weaken (fun _ _ _ _ => trivial), by rw [hU]; exact ((hZ.kept hS.2.1).narrow hf9).moved hW.alike, hN.warm hW⟩⟩ rfl rfl hl.1 rfl (lv_room (Nat.le_of_ble_eq_true rfl)) dX0_writeParameters_172 (room_s hT108 hbl)) hS (fun q _ h => hf9 q h) hf9 (fun ad109 t H locs ht hvm hw hB hz1 hk1 hS => ?_)
  have hn110 := hw
  obtain ⟨hP, hK9, hD9⟩ := hB
  rw [ht] at hP
  have hD := hD9.weaken (fun _ q _ h => hf9 q.1 h)
  rw [xt_xt, ← eL108] at hP hD
  refine W_cs (k := L108.length) (n := wt L108) (by rw [eL108]; exact (len_s L102 y106.1).symm) (by rw [eL108]; exact (wt_app L102 y106.1).symm) ?_
  have hT : y.1 = L108 ++ w107.1 := by rw [hT108, eL108]
  have h2 : y.2 = w107.2 := by rw [h2, ew107]
  have hl := lv_sub (l' := []) hl [] rfl
  have hk : (xt G L108).2.1 a = 0 := by rw [eL108]; exact xt_k _ hc hk
  have hc : a < (xt G L108).1 := by rw [eL108]; exact xt_l _ hc
  have hk2 : (xt G L108).2.1 b2 = 10 := by rw [eL108]; exact xt_k _ hc2 hk2
  have hc2 : b2 < (xt G L108).1 := by rw [eL108]; exact xt_l _ hc2
  have hk4 : (xt G L108).2.1 b4 = 10 := by rw [eL108]; exact xt_k _ hc4 hk4
  have hc4 : b4 < (xt G L108).1 := by rw [eL108]; exact xt_l _ hc4
  have hk10 : (xt G L108).2.1 b10 = 10 := by rw [eL108]; exact xt_k _ hc10 hk10
  have hc10 : b10 < (xt G L108).1 := by rw [eL108]; exact xt_l _ hc10
  have hk16 : (xt G L108).2.1 b16 = 13 := by rw [eL108]; exact xt_k _ hc16 hk16
  have hc16 : b16 < (xt G L108).1 := by rw [eL108]; exact xt_l _ hc16
  have hk28 : (xt G L108).2.1 b28 = 10 := by rw [eL108]; exact xt_k _ hc28 hk28
  have hc28 : b28 < (xt G L108).1 := by rw [eL108]; exact xt_l _ hc28
  have hk34 : (xt G L108).2.1 b34 = 13 := by rw [eL108]; exact xt_k _ hc34 hk34
  have hc34 : b34 < (xt G L108).1 := by rw [eL108]; exact xt_l _ hc34
  have hk37 : (xt G L108).2.1 b37 = 10 := by rw [eL108]; exact xt_k _ hc37 hk37
  have hc37 : b37 < (xt G L108).1 := by rw [eL108]; exact xt_l _ hc37
  have hk43 : (xt G L108).2.1 b43 = 10 := by rw [eL108]; exact xt_k _ hc43 hk43
  have hc43 : b43 < (xt G L108).1 := by rw [eL108]; exact xt_l _ hc43
  have hk49 : (xt G L108).2.1 b49 = 13 := by rw [eL108]; exact xt_k _ hc49 hk49
  have hc49 : b49 < (xt G L108).1 := by rw [eL108]; exact xt_l _ hc49
  have hk56 : (xt G L108).2.1 b56 = 13 := by rw [eL108]; exact xt_k _ hc56 hk56
  have hc56 : b56 < (xt G L108).1 := by rw [eL108]; exact xt_l _ hc56
  have hk59 : (xt G L108).2.1 b59 = 10 := by rw [eL108]; exact xt_k _ hc59 hk59
  have hc59 : b59 < (xt G L108).1 := by rw [eL108]; exact xt_l _ hc59
  have hk65 : (xt G L108).2.1 b65 = 13 := by rw [eL108]; exact xt_k _ hc65 hk65
  have hc65 : b65 < (xt G L108).1 := by rw [eL108]; exact xt_l _ hc65
  have hk68 : (xt G L108).2.1 b68 = 10 := by rw [eL108]; exact xt_k _ hc68 hk68
  have hc68 : b68 < (xt G L108).1 := by rw [eL108]; exact xt_l _ hc68
  have hk74 : (xt G L108).2.1 b74 = 10 := by rw [eL108]; exact xt_k _ hc74 hk74
  have hc74 : b74 < (xt G L108).1 := by rw [eL108]; exact xt_l _ hc74
  have hk80 : (xt G L108).2.1 b80 = 13 := by rw [eL108]; exact xt_k _ hc80 hk80
  have hc80 : b80 < (xt G L108).1 := by rw [eL108]; exact xt_l _ hc80
  have hk82 : (xt G L108).2.1 b82 = 10 := by rw [eL108]; exact xt_k _ hc82 hk82
  have hc82 : b82 < (xt G L108).1 := by rw [eL108]; exact xt_l _ hc82
  have hk93 : (xt G L108).2.1 b93 = 13 := by rw [eL108]; exact xt_k _ hc93 hk93
  have hc93 : b93 < (xt G L108).1 := by rw [eL108]; exact xt_l _ hc93
  have hk105 : (xt G L108).2.1 b105 = 10 := by rw [eL108]; exact xt_k _ hc105 hk105
  have hc105 : b105 < (xt G L108).1 := by rw [eL108]; exact xt_l _ hc105
  have hag := agr_t (xt_ge _ _) hag hn110
  obtain rfl := Option.some.inj hF
  have e1 : y.1 = L108 := by rw [hT]; exact List.append_nil _
  have e2 : y.2 = y106.2 := h2
  refine W.widen (k := y.1.length) (n := wt y.1) (Nat.le_of_eq (by rw [e1])) (Nat.le_of_eq (by rw [e1])) ?_
  exact W.vret hx hb hr (fun t ht hW => ⟨⟨ad109, rfl, hag, (by unfold kE; rw [e1, e2]; exact ⟨by rw [ht]; exact hP, va_K.moved hW.alike hK, hD⟩)⟩, hS.F ht⟩) hS.2.2 dX0_writeParameters_175
set_option maxRecDepth 20000 in
theorem gX0_writeSequence_X10_beginUnit : GoodIn wuX0_writeSequence (wsV RX0 154 RX10 yX10_beginUnit wuX10_beginUnit) := gu_V mw_1135 mw_1136 mw_1137 mw_176 mw_1138
set_option maxRecDepth 20000 in
set_option maxRecDepth 20000 in
theorem gX0_writeSequence_X10_code : GoodIn wuX0_writeSequence (wsV RX0 150 RX10 yX10_code wuX10_code) := gu_V mw_1140 mw_1141 mw_1142 mw_176 mw_1143
set_option maxRecDepth 20000 in
set_option maxRecDepth 20000 in
theorem gX0_writeSequence_X10_ue : GoodIn wuX0_writeSequence (wsV RX0 162 RX10 yX10_ue wuX10_ue) := gu_V mw_1169 mw_1170 mw_1171 mw_176 mw_1172
set_option maxRecDepth 20000 in
set_option maxRecDepth 20000 in
theorem gX0_writeSequence_X0_flag : GoodIn wuX0_writeSequence (wsV RX0 166 RX0 yX0_flag wuX0_flag) := gu_V mw_1177 mw_1179 mw_28 mw_175 mw_1180
set_option maxRecDepth 20000 in
set_option maxRecDepth 20000 in
theorem gX0_writeSequence_X10_endUnit : GoodIn wuX0_writeSequence (wsV RX0 172 RX10 yX10_endUnit wuX10_endUnit) := gu_V mw_1188 mw_1189 mw_1190 mw_176 mw_1191
set_option maxRecDepth 20000 in
theorem gX0_writeSequence_X10_se : GoodIn wuX0_writeSequence (wsV RX0 169 RX10 yX10_se wuX10_se) := gu_V mw_1181 mw_1182 mw_1183 mw_176 mw_1184
set_option maxRecDepth 20000 in
theorem dX0_writeSequence_0 : decode cX0_writeSequence 0 = .ok (.aload_n 0, 1) := by decide +kernel
theorem dX0_writeSequence_1 : decode cX0_writeSequence 1 = .ok (.getfield 29, 3) := by decide +kernel
theorem dX0_writeSequence_4 : decode cX0_writeSequence 4 = .ok (.bipush 103, 2) := by decide +kernel
theorem dX0_writeSequence_6 : decode cX0_writeSequence 6 = .ok (.invokevirtual 154, 3) := by decide +kernel
theorem dX0_writeSequence_9 : decode cX0_writeSequence 9 = .ok (.aload_n 0, 1) := by decide +kernel
theorem dX0_writeSequence_10 : decode cX0_writeSequence 10 = .ok (.getfield 29, 3) := by decide +kernel
theorem dX0_writeSequence_13 : decode cX0_writeSequence 13 = .ok (.iconst 0, 1) := by decide +kernel
theorem dX0_writeSequence_14 : decode cX0_writeSequence 14 = .ok (.ldc2_w 158, 3) := by decide +kernel
theorem dX0_writeSequence_17 : decode cX0_writeSequence 17 = .ok (.bipush 8, 2) := by decide +kernel
theorem dX0_writeSequence_19 : decode cX0_writeSequence 19 = .ok (.invokevirtual 150, 3) := by decide +kernel
theorem dX0_writeSequence_22 : decode cX0_writeSequence 22 = .ok (.aload_n 0, 1) := by decide +kernel
theorem dX0_writeSequence_23 : decode cX0_writeSequence 23 = .ok (.getfield 29, 3) := by decide +kernel
theorem dX0_writeSequence_26 : decode cX0_writeSequence 26 = .ok (.iconst 0, 1) := by decide +kernel
theorem dX0_writeSequence_27 : decode cX0_writeSequence 27 = .ok (.lconst 0, 1) := by decide +kernel
theorem dX0_writeSequence_28 : decode cX0_writeSequence 28 = .ok (.bipush 8, 2) := by decide +kernel
theorem dX0_writeSequence_30 : decode cX0_writeSequence 30 = .ok (.invokevirtual 150, 3) := by decide +kernel
theorem dX0_writeSequence_33 : decode cX0_writeSequence 33 = .ok (.aload_n 0, 1) := by decide +kernel
theorem dX0_writeSequence_34 : decode cX0_writeSequence 34 = .ok (.getfield 29, 3) := by decide +kernel
theorem dX0_writeSequence_37 : decode cX0_writeSequence 37 = .ok (.iconst 0, 1) := by decide +kernel
theorem dX0_writeSequence_38 : decode cX0_writeSequence 38 = .ok (.ldc2_w 160, 3) := by decide +kernel
theorem dX0_writeSequence_41 : decode cX0_writeSequence 41 = .ok (.bipush 8, 2) := by decide +kernel
theorem dX0_writeSequence_43 : decode cX0_writeSequence 43 = .ok (.invokevirtual 150, 3) := by decide +kernel
theorem dX0_writeSequence_46 : decode cX0_writeSequence 46 = .ok (.aload_n 0, 1) := by decide +kernel
theorem dX0_writeSequence_47 : decode cX0_writeSequence 47 = .ok (.getfield 29, 3) := by decide +kernel
theorem dX0_writeSequence_50 : decode cX0_writeSequence 50 = .ok (.iconst 0, 1) := by decide +kernel
theorem dX0_writeSequence_51 : decode cX0_writeSequence 51 = .ok (.iconst 0, 1) := by decide +kernel
theorem dX0_writeSequence_52 : decode cX0_writeSequence 52 = .ok (.invokevirtual 162, 3) := by decide +kernel
theorem dX0_writeSequence_55 : decode cX0_writeSequence 55 = .ok (.aload_n 0, 1) := by decide +kernel
theorem dX0_writeSequence_56 : decode cX0_writeSequence 56 = .ok (.getfield 29, 3) := by decide +kernel
theorem dX0_writeSequence_59 : decode cX0_writeSequence 59 = .ok (.iconst 0, 1) := by decide +kernel
theorem dX0_writeSequence_60 : decode cX0_writeSequence 60 = .ok (.iconst 4, 1) := by decide +kernel
theorem dX0_writeSequence_61 : decode cX0_writeSequence 61 = .ok (.invokevirtual 162, 3) := by decide +kernel
theorem dX0_writeSequence_64 : decode cX0_writeSequence 64 = .ok (.aload_n 0, 1) := by decide +kernel
theorem dX0_writeSequence_65 : decode cX0_writeSequence 65 = .ok (.getfield 29, 3) := by decide +kernel
theorem dX0_writeSequence_68 : decode cX0_writeSequence 68 = .ok (.iconst 0, 1) := by decide +kernel
theorem dX0_writeSequence_69 : decode cX0_writeSequence 69 = .ok (.aload_n 0, 1) := by decide +kernel
theorem dX0_writeSequence_70 : decode cX0_writeSequence 70 = .ok (.getfield 23, 3) := by decide +kernel
theorem dX0_writeSequence_73 : decode cX0_writeSequence 73 = .ok (.bipush 18, 2) := by decide +kernel
theorem dX0_writeSequence_75 : decode cX0_writeSequence 75 = .ok (.iaload, 1) := by decide +kernel
theorem dX0_writeSequence_76 : decode cX0_writeSequence 76 = .ok (.invokevirtual 162, 3) := by decide +kernel
theorem dX0_writeSequence_79 : decode cX0_writeSequence 79 = .ok (.aload_n 0, 1) := by decide +kernel
theorem dX0_writeSequence_80 : decode cX0_writeSequence 80 = .ok (.getfield 23, 3) := by decide +kernel
theorem dX0_writeSequence_83 : decode cX0_writeSequence 83 = .ok (.bipush 18, 2) := by decide +kernel
theorem dX0_writeSequence_85 : decode cX0_writeSequence 85 = .ok (.iaload, 1) := by decide +kernel
theorem dX0_writeSequence_86 : decode cX0_writeSequence 86 = .ok (.ifCond .ne 15, 3) := by decide +kernel
theorem dX0_writeSequence_89 : decode cX0_writeSequence 89 = .ok (.aload_n 0, 1) := by decide +kernel
theorem dX0_writeSequence_90 : decode cX0_writeSequence 90 = .ok (.getfield 29, 3) := by decide +kernel
theorem dX0_writeSequence_93 : decode cX0_writeSequence 93 = .ok (.iconst 0, 1) := by decide +kernel
theorem dX0_writeSequence_94 : decode cX0_writeSequence 94 = .ok (.iconst 4, 1) := by decide +kernel
theorem dX0_writeSequence_95 : decode cX0_writeSequence 95 = .ok (.invokevirtual 162, 3) := by decide +kernel
theorem dX0_writeSequence_98 : decode cX0_writeSequence 98 = .ok (.goto 55, 3) := by decide +kernel
theorem dX0_writeSequence_101 : decode cX0_writeSequence 101 = .ok (.aload_n 0, 1) := by decide +kernel
theorem dX0_writeSequence_102 : decode cX0_writeSequence 102 = .ok (.getfield 23, 3) := by decide +kernel
theorem dX0_writeSequence_105 : decode cX0_writeSequence 105 = .ok (.bipush 18, 2) := by decide +kernel
theorem dX0_writeSequence_107 : decode cX0_writeSequence 107 = .ok (.iaload, 1) := by decide +kernel
theorem dX0_writeSequence_108 : decode cX0_writeSequence 108 = .ok (.iconst 1, 1) := by decide +kernel
theorem dX0_writeSequence_109 : decode cX0_writeSequence 109 = .ok (.if_icmp .ne 44, 3) := by decide +kernel
theorem dX0_writeSequence_112 : decode cX0_writeSequence 112 = .ok (.aload_n 0, 1) := by decide +kernel
theorem dX0_writeSequence_113 : decode cX0_writeSequence 113 = .ok (.iconst 1, 1) := by decide +kernel
theorem dX0_writeSequence_114 : decode cX0_writeSequence 114 = .ok (.invokevirtual 166, 3) := by decide +kernel
theorem dX0_writeSequence_117 : decode cX0_writeSequence 117 = .ok (.aload_n 0, 1) := by decide +kernel
theorem dX0_writeSequence_118 : decode cX0_writeSequence 118 = .ok (.getfield 29, 3) := by decide +kernel
theorem dX0_writeSequence_121 : decode cX0_writeSequence 121 = .ok (.iconst 0, 1) := by decide +kernel
theorem dX0_writeSequence_122 : decode cX0_writeSequence 122 = .ok (.iconst 0, 1) := by decide +kernel
theorem dX0_writeSequence_123 : decode cX0_writeSequence 123 = .ok (.invokevirtual 169, 3) := by decide +kernel
theorem dX0_writeSequence_126 : decode cX0_writeSequence 126 = .ok (.aload_n 0, 1) := by decide +kernel
theorem dX0_writeSequence_127 : decode cX0_writeSequence 127 = .ok (.getfield 29, 3) := by decide +kernel
theorem dX0_writeSequence_130 : decode cX0_writeSequence 130 = .ok (.iconst 0, 1) := by decide +kernel
theorem dX0_writeSequence_131 : decode cX0_writeSequence 131 = .ok (.iconst 0, 1) := by decide +kernel
theorem dX0_writeSequence_132 : decode cX0_writeSequence 132 = .ok (.invokevirtual 169, 3) := by decide +kernel
theorem dX0_writeSequence_135 : decode cX0_writeSequence 135 = .ok (.aload_n 0, 1) := by decide +kernel
theorem dX0_writeSequence_136 : decode cX0_writeSequence 136 = .ok (.getfield 29, 3) := by decide +kernel
theorem dX0_writeSequence_139 : decode cX0_writeSequence 139 = .ok (.iconst 0, 1) := by decide +kernel
theorem dX0_writeSequence_140 : decode cX0_writeSequence 140 = .ok (.iconst 1, 1) := by decide +kernel
theorem dX0_writeSequence_141 : decode cX0_writeSequence 141 = .ok (.invokevirtual 162, 3) := by decide +kernel
theorem dX0_writeSequence_144 : decode cX0_writeSequence 144 = .ok (.aload_n 0, 1) := by decide +kernel
theorem dX0_writeSequence_145 : decode cX0_writeSequence 145 = .ok (.getfield 29, 3) := by decide +kernel
theorem dX0_writeSequence_148 : decode cX0_writeSequence 148 = .ok (.iconst 0, 1) := by decide +kernel
theorem dX0_writeSequence_149 : decode cX0_writeSequence 149 = .ok (.iconst 2, 1) := by decide +kernel
theorem dX0_writeSequence_150 : decode cX0_writeSequence 150 = .ok (.invokevirtual 169, 3) := by decide +kernel
theorem dX0_writeSequence_153 : decode cX0_writeSequence 153 = .ok (.aload_n 0, 1) := by decide +kernel
theorem dX0_writeSequence_154 : decode cX0_writeSequence 154 = .ok (.getfield 29, 3) := by decide +kernel
theorem dX0_writeSequence_157 : decode cX0_writeSequence 157 = .ok (.iconst 0, 1) := by decide +kernel
theorem dX0_writeSequence_158 : decode cX0_writeSequence 158 = .ok (.aload_n 0, 1) := by decide +kernel
theorem dX0_writeSequence_159 : decode cX0_writeSequence 159 = .ok (.getfield 23, 3) := by decide +kernel
theorem dX0_writeSequence_162 : decode cX0_writeSequence 162 = .ok (.bipush 7, 2) := by decide +kernel
theorem dX0_writeSequence_164 : decode cX0_writeSequence 164 = .ok (.iaload, 1) := by decide +kernel
theorem dX0_writeSequence_165 : decode cX0_writeSequence 165 = .ok (.invokevirtual 162, 3) := by decide +kernel
theorem dX0_writeSequence_168 : decode cX0_writeSequence 168 = .ok (.aload_n 0, 1) := by decide +kernel
theorem dX0_writeSequence_169 : decode cX0_writeSequence 169 = .ok (.iconst 0, 1) := by decide +kernel
theorem dX0_writeSequence_170 : decode cX0_writeSequence 170 = .ok (.invokevirtual 166, 3) := by decide +kernel
theorem dX0_writeSequence_173 : decode cX0_writeSequence 173 = .ok (.aload_n 0, 1) := by decide +kernel
theorem dX0_writeSequence_174 : decode cX0_writeSequence 174 = .ok (.getfield 29, 3) := by decide +kernel
theorem dX0_writeSequence_177 : decode cX0_writeSequence 177 = .ok (.iconst 0, 1) := by decide +kernel
theorem dX0_writeSequence_178 : decode cX0_writeSequence 178 = .ok (.aload_n 0, 1) := by decide +kernel
theorem dX0_writeSequence_179 : decode cX0_writeSequence 179 = .ok (.getfield 23, 3) := by decide +kernel
theorem dX0_writeSequence_182 : decode cX0_writeSequence 182 = .ok (.iconst 0, 1) := by decide +kernel
theorem dX0_writeSequence_183 : decode cX0_writeSequence 183 = .ok (.iaload, 1) := by decide +kernel
theorem dX0_writeSequence_184 : decode cX0_writeSequence 184 = .ok (.iconst 1, 1) := by decide +kernel
theorem dX0_writeSequence_185 : decode cX0_writeSequence 185 = .ok (.isub, 1) := by decide +kernel
theorem dX0_writeSequence_186 : decode cX0_writeSequence 186 = .ok (.invokevirtual 162, 3) := by decide +kernel
theorem dX0_writeSequence_189 : decode cX0_writeSequence 189 = .ok (.aload_n 0, 1) := by decide +kernel
theorem dX0_writeSequence_190 : decode cX0_writeSequence 190 = .ok (.getfield 29, 3) := by decide +kernel
theorem dX0_writeSequence_193 : decode cX0_writeSequence 193 = .ok (.iconst 0, 1) := by decide +kernel
theorem dX0_writeSequence_194 : decode cX0_writeSequence 194 = .ok (.aload_n 0, 1) := by decide +kernel
theorem dX0_writeSequence_195 : decode cX0_writeSequence 195 = .ok (.getfield 23, 3) := by decide +kernel
theorem dX0_writeSequence_198 : decode cX0_writeSequence 198 = .ok (.iconst 1, 1) := by decide +kernel
theorem dX0_writeSequence_199 : decode cX0_writeSequence 199 = .ok (.iaload, 1) := by decide +kernel
theorem dX0_writeSequence_200 : decode cX0_writeSequence 200 = .ok (.iconst 1, 1) := by decide +kernel
theorem dX0_writeSequence_201 : decode cX0_writeSequence 201 = .ok (.isub, 1) := by decide +kernel
theorem dX0_writeSequence_202 : decode cX0_writeSequence 202 = .ok (.invokevirtual 162, 3) := by decide +kernel
theorem dX0_writeSequence_205 : decode cX0_writeSequence 205 = .ok (.aload_n 0, 1) := by decide +kernel
theorem dX0_writeSequence_206 : decode cX0_writeSequence 206 = .ok (.iconst 1, 1) := by decide +kernel
theorem dX0_writeSequence_207 : decode cX0_writeSequence 207 = .ok (.invokevirtual 166, 3) := by decide +kernel
theorem dX0_writeSequence_210 : decode cX0_writeSequence 210 = .ok (.aload_n 0, 1) := by decide +kernel
theorem dX0_writeSequence_211 : decode cX0_writeSequence 211 = .ok (.iconst 1, 1) := by decide +kernel
theorem dX0_writeSequence_212 : decode cX0_writeSequence 212 = .ok (.invokevirtual 166, 3) := by decide +kernel
theorem dX0_writeSequence_215 : decode cX0_writeSequence 215 = .ok (.aload_n 0, 1) := by decide +kernel
theorem dX0_writeSequence_216 : decode cX0_writeSequence 216 = .ok (.iconst 0, 1) := by decide +kernel
theorem dX0_writeSequence_217 : decode cX0_writeSequence 217 = .ok (.invokevirtual 166, 3) := by decide +kernel
theorem dX0_writeSequence_220 : decode cX0_writeSequence 220 = .ok (.aload_n 0, 1) := by decide +kernel
theorem dX0_writeSequence_221 : decode cX0_writeSequence 221 = .ok (.iconst 0, 1) := by decide +kernel
theorem dX0_writeSequence_222 : decode cX0_writeSequence 222 = .ok (.invokevirtual 166, 3) := by decide +kernel
theorem dX0_writeSequence_225 : decode cX0_writeSequence 225 = .ok (.aload_n 0, 1) := by decide +kernel
theorem dX0_writeSequence_226 : decode cX0_writeSequence 226 = .ok (.getfield 29, 3) := by decide +kernel
theorem dX0_writeSequence_229 : decode cX0_writeSequence 229 = .ok (.iconst 0, 1) := by decide +kernel
theorem dX0_writeSequence_230 : decode cX0_writeSequence 230 = .ok (.invokevirtual 172, 3) := by decide +kernel
theorem dX0_writeSequence_233 : decode cX0_writeSequence 233 = .ok (.return_, 1) := by decide +kernel
noncomputable def FX0_writeSequence (G : GG) (M : DD) (a : Nat)  : Option (NN × DD) :=
  dr (xt G []) 10 ((M.2 a 2)) fun b2 =>
  bnd (FX10_beginUnit (xt G []) M b2 ((103 : Int32))) fun y3 =>
  dr (xt G []) 10 ((y3.2 a 2)) fun b4 =>
  bnd (FX10_code (xt G []) y3 b4 ((0 : Int32)) ((77 : Int64)) ((8 : Int32))) fun y5 =>
  app y5.1 <|
  ltt ([] ++ y5.1) fun L7 =>
  dr (xt G L7) 10 ((y5.2.2 a 2)) fun b10 =>
  bnd (FX10_code (xt G L7) y5.2 b10 ((0 : Int32)) ((0 : Int64)) ((8 : Int32))) fun y11 =>
  app y11.1 <|
  ltt (L7 ++ y11.1) fun L13 =>
  dr (xt G L13) 10 ((y11.2.2 a 2)) fun b16 =>
  bnd (FX10_code (xt G L13) y11.2 b16 ((0 : Int32)) ((40 : Int64)) ((8 : Int32))) fun y17 =>
  app y17.1 <|
  ltt (L13 ++ y17.1) fun L19 =>
  dr (xt G L19) 10 ((y17.2.2 a 2)) fun b22 =>
  bnd (FX10_ue (xt G L19) y17.2 b22 ((0 : Int32)) ((0 : Int32))) fun y23 =>
  app y23.1 <|
  ltt (L19 ++ y23.1) fun L25 =>
  dr (xt G L25) 10 ((y23.2.2 a 2)) fun b28 =>
  bnd (FX10_ue (xt G L25) y23.2 b28 ((0 : Int32)) ((4 : Int32))) fun y29 =>
  app y29.1 <|
  ltt (L25 ++ y29.1) fun L31 =>
  dr (xt G L31) 13 ((y29.2.2 a 1)) fun b34 =>
  chk (¬ (((18 : Int32)) < 0 ∨ (xt G L31).2.2 b34 ≤ ((18 : Int32)).toNatClampNeg)) <|
  ltt (y29.2.1 b34 ((18 : Int32)).toNatClampNeg) fun x35 =>
  dr (xt G L31) 10 ((y29.2.2 a 2)) fun b36 =>
  bnd (FX10_ue (xt G L31) y29.2 b36 ((0 : Int32)) x35) fun y37 =>
  app y37.1 <|
  ltt (L31 ++ y37.1) fun L39 =>
  dr (xt G L39) 13 ((y37.2.2 a 1)) fun b42 =>
  chk (¬ (((18 : Int32)) < 0 ∨ (xt G L39).2.2 b42 ≤ ((18 : Int32)).toNatClampNeg)) <|
  ltt (y37.2.1 b42 ((18 : Int32)).toNatClampNeg) fun x43 =>
  bnd (if x43 = ((0 : Int32)) then (dr (xt G L39) 10 ((y37.2.2 a 2)) fun b143 =>
  bnd (FX10_ue (xt G L39) y37.2 b143 ((0 : Int32)) ((4 : Int32))) fun y144 =>
  app y144.1 <|
  ltt (L39 ++ y144.1) fun L146 =>
  some ([], y144.2)) else
  (chk (¬ (((18 : Int32)) < 0 ∨ (xt G L39).2.2 b42 ≤ ((18 : Int32)).toNatClampNeg)) <|
  ltt (y37.2.1 b42 ((18 : Int32)).toNatClampNeg) fun x107 =>
  bnd (if x107 = ((1 : Int32)) then (bnd (FX0_flag (xt G L39) y37.2 a ((1 : Int32))) fun y114 =>
  app y114.1 <|
  ltt (L39 ++ y114.1) fun L116 =>
  dr (xt G L116) 10 ((y114.2.2 a 2)) fun b119 =>
  bnd (FX10_se (xt G L116) y114.2 b119 ((0 : Int32)) ((0 : Int32))) fun y120 =>
  app y120.1 <|
  ltt (L116 ++ y120.1) fun L122 =>
  dr (xt G L122) 10 ((y120.2.2 a 2)) fun b125 =>
  bnd (FX10_se (xt G L122) y120.2 b125 ((0 : Int32)) ((0 : Int32))) fun y126 =>
  app y126.1 <|
  ltt (L122 ++ y126.1) fun L128 =>
  dr (xt G L128) 10 ((y126.2.2 a 2)) fun b131 =>
  bnd (FX10_ue (xt G L128) y126.2 b131 ((0 : Int32)) ((1 : Int32))) fun y132 =>
  app y132.1 <|
  ltt (L128 ++ y132.1) fun L134 =>
  dr (xt G L134) 10 ((y132.2.2 a 2)) fun b137 =>
  bnd (FX10_se (xt G L134) y132.2 b137 ((0 : Int32)) ((2 : Int32))) fun y138 =>
  app y138.1 <|
  ltt (L134 ++ y138.1) fun L140 =>
  some ([], y138.2)) else
  (some ([], y37.2))) fun (y108 : NN × DD) =>
  app y108.1 <|
  ltt (L39 ++ y108.1) fun L110 =>
  some ([], y108.2))) fun (y44 : NN × DD) =>
  app y44.1 <|
  ltt (L39 ++ y44.1) fun L46 =>
  dr (xt G L46) 13 ((y44.2.2 a 1)) fun b48 =>
  chk (¬ (((7 : Int32)) < 0 ∨ (xt G L46).2.2 b48 ≤ ((7 : Int32)).toNatClampNeg)) <|
  ltt (y44.2.1 b48 ((7 : Int32)).toNatClampNeg) fun x49 =>
  dr (xt G L46) 10 ((y44.2.2 a 2)) fun b50 =>
  bnd (FX10_ue (xt G L46) y44.2 b50 ((0 : Int32)) x49) fun y51 =>
  app y51.1 <|
  ltt (L46 ++ y51.1) fun L53 =>
  bnd (FX0_flag (xt G L53) y51.2 a ((0 : Int32))) fun y56 =>
  app y56.1 <|
  ltt (L53 ++ y56.1) fun L58 =>
  dr (xt G L58) 13 ((y56.2.2 a 1)) fun b61 =>
  chk (¬ (((0 : Int32)) < 0 ∨ (xt G L58).2.2 b61 ≤ ((0 : Int32)).toNatClampNeg)) <|
  ltt (y56.2.1 b61 ((0 : Int32)).toNatClampNeg) fun x62 =>
  ltt ((x62 - ((1 : Int32)))) fun x63 =>
  dr (xt G L58) 10 ((y56.2.2 a 2)) fun b64 =>
  bnd (FX10_ue (xt G L58) y56.2 b64 ((0 : Int32)) x63) fun y65 =>
  app y65.1 <|
  ltt (L58 ++ y65.1) fun L67 =>
  dr (xt G L67) 13 ((y65.2.2 a 1)) fun b70 =>
  chk (¬ (((1 : Int32)) < 0 ∨ (xt G L67).2.2 b70 ≤ ((1 : Int32)).toNatClampNeg)) <|
  ltt (y65.2.1 b70 ((1 : Int32)).toNatClampNeg) fun x71 =>
  ltt ((x71 - ((1 : Int32)))) fun x72 =>
  dr (xt G L67) 10 ((y65.2.2 a 2)) fun b73 =>
  bnd (FX10_ue (xt G L67) y65.2 b73 ((0 : Int32)) x72) fun y74 =>
  app y74.1 <|
  ltt (L67 ++ y74.1) fun L76 =>
  bnd (FX0_flag (xt G L76) y74.2 a ((1 : Int32))) fun y79 =>
  app y79.1 <|
  ltt (L76 ++ y79.1) fun L81 =>
  bnd (FX0_flag (xt G L81) y79.2 a ((1 : Int32))) fun y84 =>
  app y84.1 <|
  ltt (L81 ++ y84.1) fun L86 =>
  bnd (FX0_flag (xt G L86) y84.2 a ((0 : Int32))) fun y89 =>
  app y89.1 <|
  ltt (L86 ++ y89.1) fun L91 =>
  bnd (FX0_flag (xt G L91) y89.2 a ((0 : Int32))) fun y94 =>
  app y94.1 <|
  ltt (L91 ++ y94.1) fun L96 =>
  dr (xt G L96) 10 ((y94.2.2 a 2)) fun b99 =>
  bnd (FX10_endUnit (xt G L96) y94.2 b99 ((0 : Int32))) fun y100 =>
  app y100.1 <|
  ltt (L96 ++ y100.1) fun L102 =>
  some ([], y100.2)
set_option maxHeartbeats 4000000 in
set_option maxRecDepth 100000 in
theorem kX0_writeSequence (l : Launch) (D : va_G) (ct : CT) (ad : Nat → Nat) (Z : Nat → Nat) (G : GG) (M : DD) (sz : Nat) (a : Nat)  (y : NN × DD) (hc : a < G.1) (hk : G.2.1 a = 0) (hF : FX0_writeSequence G M a  = some y) : Met l yX0_writeSequence wuX0_writeSequence ({ frames := 6, cells := y.1.length, slots := wt y.1, locals := 198 }) (va_Pc [.ref (ad a)] (kB D ct ad Z G M sz)) (va_Qv (fun (u : Nat → Nat) => agr G.1 ad u) (fun u t => kE D ct u (xt G y.1) (wA ad G sz) y.2 t) (wA ad G sz)) y.1.length (wt y.1) (wA ad G sz) := by
  refine Met.ofW (cc := cX0_writeSequence) (maxL := 1) (ret := none) (by decide) rfl ?_
  intro p e s m args below meth c s₁ B hml hv
  obtain ⟨rfl, hsz, hP, hK, hD0, hZ, hN⟩ := hv
  have hx := B.exec
  have hb := B.bytes
  have hr := B.returns
  have hts := atoms_spec (ws := wuX0_writeSequence) B.pre
  have hown : s.vm.findClass RX0 = some m.cls := findClass_of_methodNamed B.named
  have hlocks := B.notSynchronized
  subst hsz
  have hD := wD_self (sz := s.heap.size) hD0
  have hA9 : ∀ q, s.heap.size ≤ q → wA ad G s.heap.size q := fun q h => Or.inr h
  generalize hAe : wA ad G s.heap.size = A at hD hA9 hZ ⊢
  have hS : va_S A s.heap s.heap [] := va_S.rf
  have hl := lv_entry ([.ref (ad a)]) (n := 1) (Nat.le_of_ble_eq_true rfl)
  rw [lg_entry_eq]
  generalize (lg_sl ([.ref (ad a)]) ++ List.replicate (1 - (lg_sl ([.ref (ad a)])).length) Slot.unset).toArray = ls at hl ⊢
  have hl : lv_has ls 1 [(0, .ref (ad a))] := hl
  unfold FX0_writeSequence at hF
  rw [← wld_0 ct ad G M] at hP hD
  have hk := xt_k0 hc hk
  have hc := xt_l0 hc
  have hag := agr_rf G.1 ad
  obtain ⟨w0, hw0⟩ : ∃ z, z = y := ⟨_, rfl⟩
  rw [← hw0] at hF
  have hT : y.1 = [] ++ w0.1 := by rw [hw0]; rfl
  have h2 : y.2 = w0.2 := by rw [hw0]
  have hbl : y.1.length ≤ y.1.length ∧ wt y.1 ≤ wt y.1 := ⟨Nat.le_refl _, Nat.le_refl _⟩
  refine lv_aload_n hx hb dX0_writeSequence_0 rfl (lv_at hl 0 rfl) ?_
  refine va_get (D := D) (ci := 0) (v := va_re ad (M.2 a 2)) (C := RX0) (T := TX0) (N := 21) hx hb hts (mus hf_X0) hown hK hP a (wld_o ct ad (xt G []) M hc hk (by decide)) rfl 2 (by decide) (hts (.fieldLink RX0 29 "VideoSuite$Coder" "writer" "LVideoSuite$Writer;") (mu mw_815)) (fun _ h9 => h9) rfl dX0_writeSequence_1 ?_
  refine lv_bipush (v := (103 : Int32)) hx hb dX0_writeSequence_4 (by decide) ?_
  obtain ⟨b2, ho2, hc2, hk2, hF⟩ := dr_some hF
  refine W_st (st' := [.int (103 : Int32), .ref (ad b2)]) (by rw [va_some ho2]) ?_
  obtain ⟨y3, hy3, hF⟩ := bnd_some hF
  have hf9 := wA_in hD hA9 hS
  refine va_callv (va_runV (As := [.int (103 : Int32)]) (rest := []) ⟨hx, hb, hml, hown, hts⟩ (kX10_beginUnit l D ct ad Z (xt G []) M s.heap.size b2 ((103 : Int32)) y3 hc2 hk2 hy3) (cwV 1 hts gX0_writeSequence_X10_beginUnit rfl rfl rfl (by decide +kernel) ⟨Nat.le_of_ble_eq_true rfl, Nat.le_of_ble_eq_true rfl⟩) ⟨fun a U g mk q => by obtain ⟨q0, q1, qP, qK, qD, qZ, qN⟩ := q; exact ⟨q0, q1, qP, va_K.moved (u := U) (U := U.calling g mk a) (Vm.Alike.refl U.vm) qK, qD, sF.moved (u := U) (U := U.calling g mk a) (Vm.Alike.refl U.vm) qZ, nF.same rfl qN⟩, va_recv hK hP (ci := 10) (q0 := b2) rfl (wld_o ct ad (xt G []) M hc2 hk2 (by decide)), fun U hU hW => ⟨rfl, by rw [hU], by rw [hU]; exact hP, va_K.moved hW.alike hK, hD.weaken (fun _ _ _ _ => trivial), by rw [hU]; exact ((hZ.kept hS.2.1).narrow hf9).moved hW.alike, hN.warm hW⟩⟩ rfl rfl hl.1 rfl (lv_room (Nat.le_of_ble_eq_true rfl)) dX0_writeSequence_6 (room_d hT hbl)) hS (fun q _ h => hf9 q h) hf9 (fun u t H locs ht hvm hw hB hz1 hk1 hS => ?_)
  obtain ⟨hP, hK9, hD9⟩ := hB
  rw [ht] at hP
  refine W_cs (k := ([] : NN).length) (n := wt []) rfl rfl ?_
  have hD := hD9.weaken (fun _ q _ h => hf9 q.1 h)
  refine lv_aload_n hx hb dX0_writeSequence_9 rfl (lv_at hl 0 rfl) ?_
  refine va_get (D := D) (ci := 0) (v := va_re ad (y3.2 a 2)) (C := RX0) (T := TX0) (N := 21) hx hb hts (mus hf_X0) hown hK hP a (wld_o ct ad (xt G []) y3 hc hk (by decide)) rfl 2 (by decide) (hts (.fieldLink RX0 29 "VideoSuite$Coder" "writer" "LVideoSuite$Writer;") (mu mw_815)) (fun _ h9 => h9) rfl dX0_writeSequence_10 ?_
  refine lv_iconst (v := (0 : Int32)) hx hb dX0_writeSequence_13 (by decide) ?_
  refine lv_ldc2 (v := (77 : Int64)) hx hb hown (hts (.constantLong RX0 158 (77 : Int64)) (mu mw_1139)) dX0_writeSequence_14 ?_
  refine lv_bipush (v := (8 : Int32)) hx hb dX0_writeSequence_17 (by decide) ?_
  obtain ⟨b4, ho4, hc4, hk4, hF⟩ := dr_some hF
  refine W_st (st' := [.int (8 : Int32), .long (77 : Int64), .int (0 : Int32), .ref (ad b4)]) (by rw [va_some ho4]) ?_
  obtain ⟨y5, hy5, hF⟩ := bnd_some hF
  obtain ⟨w6, hF, ew6⟩ := app_some hF
  obtain ⟨L7, eL7, hF⟩ := ltt_some hF
  have hT7 : y.1 = ([] ++ y5.1) ++ w6.1 := by rw [hT, ew6]; simp only [List.append_assoc]
  have hf9 := wA_in hD hA9 hS
  refine va_callv (va_runV (As := [.int (0 : Int32), .long (77 : Int64), .int (8 : Int32)]) (rest := []) ⟨hx, hb, hml, hown, hts⟩ (kX10_code l D ct ad Z (xt G []) y3 _ b4 ((0 : Int32)) ((77 : Int64)) ((8 : Int32)) y5 hc4 hk4 hy5) (cwV 3 hts gX0_writeSequence_X10_code rfl rfl rfl (by decide +kernel) ⟨Nat.le_of_ble_eq_true rfl, Nat.le_of_ble_eq_true rfl⟩) ⟨fun a U g mk q => by obtain ⟨q0, q1, qP, qK, qD, qZ, qN⟩ := q; exact ⟨q0, q1, qP, va_K.moved (u := U) (U := U.calling g mk a) (Vm.Alike.refl U.vm) qK, qD, sF.moved (u := U) (U := U.calling g mk a) (Vm.Alike.refl U.vm) qZ, nF.same rfl qN⟩, va_recv hK hP (ci := 10) (q0 := b4) rfl (wld_o ct ad (xt G []) y3 hc4 hk4 (by decide)), fun U hU hW => ⟨rfl, by rw [hU], by rw [hU]; exact hP, va_K.moved hW.alike hK, hD.weaken (fun _ _ _ _ => trivial), by rw [hU]; exact ((hZ.kept hS.2.1).narrow hf9).moved hW.alike, hN.warm hW⟩⟩ rfl rfl hl.1 rfl (lv_room (Nat.le_of_ble_eq_true rfl)) dX0_writeSequence_19 (room_s hT7 hbl)) hS (fun q _ h => hf9 q h) hf9 (fun ad8 t H locs ht hvm hw hB hz1 hk1 hS => ?_)
  have hn9 := hw
  obtain ⟨hP, hK9, hD9⟩ := hB
  rw [ht] at hP
  have hD := hD9.weaken (fun _ q _ h => hf9 q.1 h)
  rw [xt_xt, ← eL7] at hP hD
  refine W_cs (k := L7.length) (n := wt L7) (by rw [eL7]; exact (len_s [] y5.1).symm) (by rw [eL7]; exact (wt_app [] y5.1).symm) ?_
  have hT : y.1 = L7 ++ w6.1 := by rw [hT7, eL7]
  have h2 : y.2 = w6.2 := by rw [h2, ew6]
  have hl := lv_sub (l' := [(0, .ref (ad a))]) hl [0] rfl
  have e9 : ([(0, .ref (ad a))] : List (Nat × Value)) = [(0, .ref (ad8 a))] := (by first | rfl | simp only [hn9 a hc])
  rw [e9] at hl
  clear e9
  have hk : (xt G L7).2.1 a = 0 := by rw [eL7]; exact xt_k _ hc hk
  have hc : a < (xt G L7).1 := by rw [eL7]; exact xt_l _ hc
  have hk2 : (xt G L7).2.1 b2 = 10 := by rw [eL7]; exact xt_k _ hc2 hk2
  have hc2 : b2 < (xt G L7).1 := by rw [eL7]; exact xt_l _ hc2
  have hk4 : (xt G L7).2.1 b4 = 10 := by rw [eL7]; exact xt_k _ hc4 hk4
  have hc4 : b4 < (xt G L7).1 := by rw [eL7]; exact xt_l _ hc4
  have hag := agr_t (xt_ge _ _) hag hn9
  refine lv_aload_n hx hb dX0_writeSequence_22 rfl (lv_at hl 0 rfl) ?_
  refine va_get (D := D) (ci := 0) (v := va_re ad8 (y5.2.2 a 2)) (C := RX0) (T := TX0) (N := 21) hx hb hts (mus hf_X0) hown hK hP a (wld_o ct ad8 (xt G L7) y5.2 hc hk (by decide)) rfl 2 (by decide) (hts (.fieldLink RX0 29 "VideoSuite$Coder" "writer" "LVideoSuite$Writer;") (mu mw_815)) (fun _ h9 => h9) rfl dX0_writeSequence_23 ?_
  refine lv_iconst (v := (0 : Int32)) hx hb dX0_writeSequence_26 (by decide) ?_
  refine lv_lconst (v := (0 : Int64)) hx hb dX0_writeSequence_27 rfl ?_
  refine lv_bipush (v := (8 : Int32)) hx hb dX0_writeSequence_28 (by decide) ?_
  obtain ⟨b10, ho10, hc10, hk10, hF⟩ := dr_some hF
  refine W_st (st' := [.int (8 : Int32), .long (0 : Int64), .int (0 : Int32), .ref (ad8 b10)]) (by rw [va_some ho10]) ?_
  obtain ⟨y11, hy11, hF⟩ := bnd_some hF
  obtain ⟨w12, hF, ew12⟩ := app_some hF
  obtain ⟨L13, eL13, hF⟩ := ltt_some hF
  have hT13 : y.1 = (L7 ++ y11.1) ++ w12.1 := by rw [hT, ew12]; simp only [List.append_assoc]
  have hf9 := wA_in hD hA9 hS
  refine va_callv (va_runV (As := [.int (0 : Int32), .long (0 : Int64), .int (8 : Int32)]) (rest := []) ⟨hx, hb, hml, hown, hts⟩ (kX10_code l D ct ad8 Z (xt G L7) y5.2 _ b10 ((0 : Int32)) ((0 : Int64)) ((8 : Int32)) y11 hc10 hk10 hy11) (cwV 3 hts gX0_writeSequence_X10_code rfl rfl rfl (by decide +kernel) ⟨Nat.le_of_ble_eq_true rfl, Nat.le_of_ble_eq_true rfl⟩) ⟨fun a U g mk q => by obtain ⟨q0, q1, qP, qK, qD, qZ, qN⟩ := q; exact ⟨q0, q1, qP, va_K.moved (u := U) (U := U.calling g mk a) (Vm.Alike.refl U.vm) qK, qD, sF.moved (u := U) (U := U.calling g mk a) (Vm.Alike.refl U.vm) qZ, nF.same rfl qN⟩, va_recv hK hP (ci := 10) (q0 := b10) rfl (wld_o ct ad8 (xt G L7) y5.2 hc10 hk10 (by decide)), fun U hU hW => ⟨rfl, by rw [hU], by rw [hU]; exact hP, va_K.moved hW.alike hK, hD.weaken (fun _ _ _ _ => trivial), by rw [hU]; exact ((hZ.kept hS.2.1).narrow hf9).moved hW.alike, hN.warm hW⟩⟩ rfl rfl hl.1 rfl (lv_room (Nat.le_of_ble_eq_true rfl)) dX0_writeSequence_30 (room_s hT13 hbl)) hS (fun q _ h => hf9 q h) hf9 (fun ad14 t H locs ht hvm hw hB hz1 hk1 hS => ?_)
  have hn15 := hw
  obtain ⟨hP, hK9, hD9⟩ := hB
  rw [ht] at hP
  have hD := hD9.weaken (fun _ q _ h => hf9 q.1 h)
  rw [xt_xt, ← eL13] at hP hD
  refine W_cs (k := L13.length) (n := wt L13) (by rw [eL13]; exact (len_s L7 y11.1).symm) (by rw [eL13]; exact (wt_app L7 y11.1).symm) ?_
  have hT : y.1 = L13 ++ w12.1 := by rw [hT13, eL13]
  have h2 : y.2 = w12.2 := by rw [h2, ew12]
  have hl := lv_sub (l' := [(0, .ref (ad8 a))]) hl [0] rfl
  have e9 : ([(0, .ref (ad8 a))] : List (Nat × Value)) = [(0, .ref (ad14 a))] := (by first | rfl | simp only [hn15 a hc])
  rw [e9] at hl
  clear e9
  have hk : (xt G L13).2.1 a = 0 := by rw [eL13]; exact xt_k _ hc hk
  have hc : a < (xt G L13).1 := by rw [eL13]; exact xt_l _ hc
  have hk2 : (xt G L13).2.1 b2 = 10 := by rw [eL13]; exact xt_k _ hc2 hk2
  have hc2 : b2 < (xt G L13).1 := by rw [eL13]; exact xt_l _ hc2
  have hk4 : (xt G L13).2.1 b4 = 10 := by rw [eL13]; exact xt_k _ hc4 hk4
  have hc4 : b4 < (xt G L13).1 := by rw [eL13]; exact xt_l _ hc4
  have hk10 : (xt G L13).2.1 b10 = 10 := by rw [eL13]; exact xt_k _ hc10 hk10
  have hc10 : b10 < (xt G L13).1 := by rw [eL13]; exact xt_l _ hc10
  have hag := agr_t (xt_ge _ _) hag hn15
  refine lv_aload_n hx hb dX0_writeSequence_33 rfl (lv_at hl 0 rfl) ?_
  refine va_get (D := D) (ci := 0) (v := va_re ad14 (y11.2.2 a 2)) (C := RX0) (T := TX0) (N := 21) hx hb hts (mus hf_X0) hown hK hP a (wld_o ct ad14 (xt G L13) y11.2 hc hk (by decide)) rfl 2 (by decide) (hts (.fieldLink RX0 29 "VideoSuite$Coder" "writer" "LVideoSuite$Writer;") (mu mw_815)) (fun _ h9 => h9) rfl dX0_writeSequence_34 ?_
  refine lv_iconst (v := (0 : Int32)) hx hb dX0_writeSequence_37 (by decide) ?_
  refine lv_ldc2 (v := (40 : Int64)) hx hb hown (hts (.constantLong RX0 160 (40 : Int64)) (mu mw_1168)) dX0_writeSequence_38 ?_
  refine lv_bipush (v := (8 : Int32)) hx hb dX0_writeSequence_41 (by decide) ?_
  obtain ⟨b16, ho16, hc16, hk16, hF⟩ := dr_some hF
  refine W_st (st' := [.int (8 : Int32), .long (40 : Int64), .int (0 : Int32), .ref (ad14 b16)]) (by rw [va_some ho16]) ?_
  obtain ⟨y17, hy17, hF⟩ := bnd_some hF
  obtain ⟨w18, hF, ew18⟩ := app_some hF
  obtain ⟨L19, eL19, hF⟩ := ltt_some hF
  have hT19 : y.1 = (L13 ++ y17.1) ++ w18.1 := by rw [hT, ew18]; simp only [List.append_assoc]
  have hf9 := wA_in hD hA9 hS
  refine va_callv (va_runV (As := [.int (0 : Int32), .long (40 : Int64), .int (8 : Int32)]) (rest := []) ⟨hx, hb, hml, hown, hts⟩ (kX10_code l D ct ad14 Z (xt G L13) y11.2 _ b16 ((0 : Int32)) ((40 : Int64)) ((8 : Int32)) y17 hc16 hk16 hy17) (cwV 3 hts gX0_writeSequence_X10_code rfl rfl rfl (by decide +kernel) ⟨Nat.le_of_ble_eq_true rfl, Nat.le_of_ble_eq_true rfl⟩) ⟨fun a U g mk q => by obtain ⟨q0, q1, qP, qK, qD, qZ, qN⟩ := q; exact ⟨q0, q1, qP, va_K.moved (u := U) (U := U.calling g mk a) (Vm.Alike.refl U.vm) qK, qD, sF.moved (u := U) (U := U.calling g mk a) (Vm.Alike.refl U.vm) qZ, nF.same rfl qN⟩, va_recv hK hP (ci := 10) (q0 := b16) rfl (wld_o ct ad14 (xt G L13) y11.2 hc16 hk16 (by decide)), fun U hU hW => ⟨rfl, by rw [hU], by rw [hU]; exact hP, va_K.moved hW.alike hK, hD.weaken (fun _ _ _ _ => trivial), by rw [hU]; exact ((hZ.kept hS.2.1).narrow hf9).moved hW.alike, hN.warm hW⟩⟩ rfl rfl hl.1 rfl (lv_room (Nat.le_of_ble_eq_true rfl)) dX0_writeSequence_43 (room_s hT19 hbl)) hS (fun q _ h => hf9 q h) hf9 (fun ad20 t H locs ht hvm hw hB hz1 hk1 hS => ?_)
  have hn21 := hw
  obtain ⟨hP, hK9, hD9⟩ := hB
  rw [ht] at hP
  have hD := hD9.weaken (fun _ q _ h => hf9 q.1 h)
  rw [xt_xt, ← eL19] at hP hD
  refine W_cs (k := L19.length) (n := wt L19) (by rw [eL19]; exact (len_s L13 y17.1).symm) (by rw [eL19]; exact (wt_app L13 y17.1).symm) ?_
  have hT : y.1 = L19 ++ w18.1 := by rw [hT19, eL19]
  have h2 : y.2 = w18.2 := by rw [h2, ew18]
  have hl := lv_sub (l' := [(0, .ref (ad14 a))]) hl [0] rfl
  have e9 : ([(0, .ref (ad14 a))] : List (Nat × Value)) = [(0, .ref (ad20 a))] := (by first | rfl | simp only [hn21 a hc])
  rw [e9] at hl
  clear e9
  have hk : (xt G L19).2.1 a = 0 := by rw [eL19]; exact xt_k _ hc hk
  have hc : a < (xt G L19).1 := by rw [eL19]; exact xt_l _ hc
  have hk2 : (xt G L19).2.1 b2 = 10 := by rw [eL19]; exact xt_k _ hc2 hk2
  have hc2 : b2 < (xt G L19).1 := by rw [eL19]; exact xt_l _ hc2
  have hk4 : (xt G L19).2.1 b4 = 10 := by rw [eL19]; exact xt_k _ hc4 hk4
  have hc4 : b4 < (xt G L19).1 := by rw [eL19]; exact xt_l _ hc4
  have hk10 : (xt G L19).2.1 b10 = 10 := by rw [eL19]; exact xt_k _ hc10 hk10
  have hc10 : b10 < (xt G L19).1 := by rw [eL19]; exact xt_l _ hc10
  have hk16 : (xt G L19).2.1 b16 = 10 := by rw [eL19]; exact xt_k _ hc16 hk16
  have hc16 : b16 < (xt G L19).1 := by rw [eL19]; exact xt_l _ hc16
  have hag := agr_t (xt_ge _ _) hag hn21
  refine lv_aload_n hx hb dX0_writeSequence_46 rfl (lv_at hl 0 rfl) ?_
  refine va_get (D := D) (ci := 0) (v := va_re ad20 (y17.2.2 a 2)) (C := RX0) (T := TX0) (N := 21) hx hb hts (mus hf_X0) hown hK hP a (wld_o ct ad20 (xt G L19) y17.2 hc hk (by decide)) rfl 2 (by decide) (hts (.fieldLink RX0 29 "VideoSuite$Coder" "writer" "LVideoSuite$Writer;") (mu mw_815)) (fun _ h9 => h9) rfl dX0_writeSequence_47 ?_
  refine lv_iconst (v := (0 : Int32)) hx hb dX0_writeSequence_50 (by decide) ?_
  refine lv_iconst (v := (0 : Int32)) hx hb dX0_writeSequence_51 (by decide) ?_
  obtain ⟨b22, ho22, hc22, hk22, hF⟩ := dr_some hF
  refine W_st (st' := [.int (0 : Int32), .int (0 : Int32), .ref (ad20 b22)]) (by rw [va_some ho22]) ?_
  obtain ⟨y23, hy23, hF⟩ := bnd_some hF
  obtain ⟨w24, hF, ew24⟩ := app_some hF
  obtain ⟨L25, eL25, hF⟩ := ltt_some hF
  have hT25 : y.1 = (L19 ++ y23.1) ++ w24.1 := by rw [hT, ew24]; simp only [List.append_assoc]
  have hf9 := wA_in hD hA9 hS
  refine va_callv (va_runV (As := [.int (0 : Int32), .int (0 : Int32)]) (rest := []) ⟨hx, hb, hml, hown, hts⟩ (kX10_ue l D ct ad20 Z (xt G L19) y17.2 _ b22 ((0 : Int32)) ((0 : Int32)) y23 hc22 hk22 hy23) (cwV 2 hts gX0_writeSequence_X10_ue rfl rfl rfl (by decide +kernel) ⟨Nat.le_of_ble_eq_true rfl, Nat.le_of_ble_eq_true rfl⟩) ⟨fun a U g mk q => by obtain ⟨q0, q1, qP, qK, qD, qZ, qN⟩ := q; exact ⟨q0, q1, qP, va_K.moved (u := U) (U := U.calling g mk a) (Vm.Alike.refl U.vm) qK, qD, sF.moved (u := U) (U := U.calling g mk a) (Vm.Alike.refl U.vm) qZ, nF.same rfl qN⟩, va_recv hK hP (ci := 10) (q0 := b22) rfl (wld_o ct ad20 (xt G L19) y17.2 hc22 hk22 (by decide)), fun U hU hW => ⟨rfl, by rw [hU], by rw [hU]; exact hP, va_K.moved hW.alike hK, hD.weaken (fun _ _ _ _ => trivial), by rw [hU]; exact ((hZ.kept hS.2.1).narrow hf9).moved hW.alike, hN.warm hW⟩⟩ rfl rfl hl.1 rfl (lv_room (Nat.le_of_ble_eq_true rfl)) dX0_writeSequence_52 (room_s hT25 hbl)) hS (fun q _ h => hf9 q h) hf9 (fun ad26 t H locs ht hvm hw hB hz1 hk1 hS => ?_)
  have hn27 := hw
  obtain ⟨hP, hK9, hD9⟩ := hB
  rw [ht] at hP
  have hD := hD9.weaken (fun _ q _ h => hf9 q.1 h)
  rw [xt_xt, ← eL25] at hP hD
  refine W_cs (k := L25.length) (n := wt L25) (by rw [eL25]; exact (len_s L19 y23.1).symm) (by rw [eL25]; exact (wt_app L19 y23.1).symm) ?_
  have hT : y.1 = L25 ++ w24.1 := by rw [hT25, eL25]
  have h2 : y.2 = w24.2 := by rw [h2, ew24]
  have hl := lv_sub (l' := [(0, .ref (ad20 a))]) hl [0] rfl
  have e9 : ([(0, .ref (ad20 a))] : List (Nat × Value)) = [(0, .ref (ad26 a))] := (by first | rfl | simp only [hn27 a hc])
  rw [e9] at hl
  clear e9
  have hk : (xt G L25).2.1 a = 0 := by rw [eL25]; exact xt_k _ hc hk
  have hc : a < (xt G L25).1 := by rw [eL25]; exact xt_l _ hc
  have hk2 : (xt G L25).2.1 b2 = 10 := by rw [eL25]; exact xt_k _ hc2 hk2
  have hc2 : b2 < (xt G L25).1 := by rw [eL25]; exact xt_l _ hc2
  have hk4 : (xt G L25).2.1 b4 = 10 := by rw [eL25]; exact xt_k _ hc4 hk4
  have hc4 : b4 < (xt G L25).1 := by rw [eL25]; exact xt_l _ hc4
  have hk10 : (xt G L25).2.1 b10 = 10 := by rw [eL25]; exact xt_k _ hc10 hk10
  have hc10 : b10 < (xt G L25).1 := by rw [eL25]; exact xt_l _ hc10
  have hk16 : (xt G L25).2.1 b16 = 10 := by rw [eL25]; exact xt_k _ hc16 hk16
  have hc16 : b16 < (xt G L25).1 := by rw [eL25]; exact xt_l _ hc16
  have hk22 : (xt G L25).2.1 b22 = 10 := by rw [eL25]; exact xt_k _ hc22 hk22
  have hc22 : b22 < (xt G L25).1 := by rw [eL25]; exact xt_l _ hc22
  have hag := agr_t (xt_ge _ _) hag hn27
  refine lv_aload_n hx hb dX0_writeSequence_55 rfl (lv_at hl 0 rfl) ?_
  refine va_get (D := D) (ci := 0) (v := va_re ad26 (y23.2.2 a 2)) (C := RX0) (T := TX0) (N := 21) hx hb hts (mus hf_X0) hown hK hP a (wld_o ct ad26 (xt G L25) y23.2 hc hk (by decide)) rfl 2 (by decide) (hts (.fieldLink RX0 29 "VideoSuite$Coder" "writer" "LVideoSuite$Writer;") (mu mw_815)) (fun _ h9 => h9) rfl dX0_writeSequence_56 ?_
  refine lv_iconst (v := (0 : Int32)) hx hb dX0_writeSequence_59 (by decide) ?_
  refine lv_iconst (v := (4 : Int32)) hx hb dX0_writeSequence_60 (by decide) ?_
  obtain ⟨b28, ho28, hc28, hk28, hF⟩ := dr_some hF
  refine W_st (st' := [.int (4 : Int32), .int (0 : Int32), .ref (ad26 b28)]) (by rw [va_some ho28]) ?_
  obtain ⟨y29, hy29, hF⟩ := bnd_some hF
  obtain ⟨w30, hF, ew30⟩ := app_some hF
  obtain ⟨L31, eL31, hF⟩ := ltt_some hF
  have hT31 : y.1 = (L25 ++ y29.1) ++ w30.1 := by rw [hT, ew30]; simp only [List.append_assoc]
  have hf9 := wA_in hD hA9 hS
  refine va_callv (va_runV (As := [.int (0 : Int32), .int (4 : Int32)]) (rest := []) ⟨hx, hb, hml, hown, hts⟩ (kX10_ue l D ct ad26 Z (xt G L25) y23.2 _ b28 ((0 : Int32)) ((4 : Int32)) y29 hc28 hk28 hy29) (cwV 2 hts gX0_writeSequence_X10_ue rfl rfl rfl (by decide +kernel) ⟨Nat.le_of_ble_eq_true rfl, Nat.le_of_ble_eq_true rfl⟩) ⟨fun a U g mk q => by obtain ⟨q0, q1, qP, qK, qD, qZ, qN⟩ := q; exact ⟨q0, q1, qP, va_K.moved (u := U) (U := U.calling g mk a) (Vm.Alike.refl U.vm) qK, qD, sF.moved (u := U) (U := U.calling g mk a) (Vm.Alike.refl U.vm) qZ, nF.same rfl qN⟩, va_recv hK hP (ci := 10) (q0 := b28) rfl (wld_o ct ad26 (xt G L25) y23.2 hc28 hk28 (by decide)), fun U hU hW => ⟨rfl, by rw [hU], by rw [hU]; exact hP, va_K.moved hW.alike hK, hD.weaken (fun _ _ _ _ => trivial), by rw [hU]; exact ((hZ.kept hS.2.1).narrow hf9).moved hW.alike, hN.warm hW⟩⟩ rfl rfl hl.1 rfl (lv_room (Nat.le_of_ble_eq_true rfl)) dX0_writeSequence_61 (room_s hT31 hbl)) hS (fun q _ h => hf9 q h) hf9 (fun ad32 t H locs ht hvm hw hB hz1 hk1 hS => ?_)
  have hn33 := hw
  obtain ⟨hP, hK9, hD9⟩ := hB
  rw [ht] at hP
  have hD := hD9.weaken (fun _ q _ h => hf9 q.1 h)
  rw [xt_xt, ← eL31] at hP hD
  refine W_cs (k := L31.length) (n := wt L31) (by rw [eL31]; exact (len_s L25 y29.1).symm) (by rw [eL31]; exact (wt_app L25 y29.1).symm) ?_
  have hT : y.1 = L31 ++ w30.1 := by rw [hT31, eL31]
  have h2 : y.2 = w30.2 := by rw [h2, ew30]
  have hl := lv_sub (l' := [(0, .ref (ad26 a))]) hl [0] rfl
  have e9 : ([(0, .ref (ad26 a))] : List (Nat × Value)) = [(0, .ref (ad32 a))] := (by first | rfl | simp only [hn33 a hc])
  rw [e9] at hl
  clear e9
  have hk : (xt G L31).2.1 a = 0 := by rw [eL31]; exact xt_k _ hc hk
  have hc : a < (xt G L31).1 := by rw [eL31]; exact xt_l _ hc
  have hk2 : (xt G L31).2.1 b2 = 10 := by rw [eL31]; exact xt_k _ hc2 hk2
  have hc2 : b2 < (xt G L31).1 := by rw [eL31]; exact xt_l _ hc2
  have hk4 : (xt G L31).2.1 b4 = 10 := by rw [eL31]; exact xt_k _ hc4 hk4
  have hc4 : b4 < (xt G L31).1 := by rw [eL31]; exact xt_l _ hc4
  have hk10 : (xt G L31).2.1 b10 = 10 := by rw [eL31]; exact xt_k _ hc10 hk10
  have hc10 : b10 < (xt G L31).1 := by rw [eL31]; exact xt_l _ hc10
  have hk16 : (xt G L31).2.1 b16 = 10 := by rw [eL31]; exact xt_k _ hc16 hk16
  have hc16 : b16 < (xt G L31).1 := by rw [eL31]; exact xt_l _ hc16
  have hk22 : (xt G L31).2.1 b22 = 10 := by rw [eL31]; exact xt_k _ hc22 hk22
  have hc22 : b22 < (xt G L31).1 := by rw [eL31]; exact xt_l _ hc22
  have hk28 : (xt G L31).2.1 b28 = 10 := by rw [eL31]; exact xt_k _ hc28 hk28
  have hc28 : b28 < (xt G L31).1 := by rw [eL31]; exact xt_l _ hc28
  have hag := agr_t (xt_ge _ _) hag hn33
  refine lv_aload_n hx hb dX0_writeSequence_64 rfl (lv_at hl 0 rfl) ?_
  refine va_get (D := D) (ci := 0) (v := va_re ad32 (y29.2.2 a 2)) (C := RX0) (T := TX0) (N := 21) hx hb hts (mus hf_X0) hown hK hP a (wld_o ct ad32 (xt G L31) y29.2 hc hk (by decide)) rfl 2 (by decide) (hts (.fieldLink RX0 29 "VideoSuite$Coder" "writer" "LVideoSuite$Writer;") (mu mw_815)) (fun _ h9 => h9) rfl dX0_writeSequence_65 ?_
  refine lv_iconst (v := (0 : Int32)) hx hb dX0_writeSequence_68 (by decide) ?_
  refine lv_aload_n hx hb dX0_writeSequence_69 rfl (lv_at hl 0 rfl) ?_
  refine va_get (D := D) (ci := 0) (v := va_re ad32 (y29.2.2 a 1)) (C := RX0) (T := TX0) (N := 21) hx hb hts (mus hf_X0) hown hK hP a (wld_o ct ad32 (xt G L31) y29.2 hc hk (by decide)) rfl 1 (by decide) (hts (.fieldLink RX0 23 "VideoSuite$Coder" "now" "[I") (mu mw_813)) (fun _ h9 => h9) rfl dX0_writeSequence_70 ?_
  refine lv_bipush (v := (18 : Int32)) hx hb dX0_writeSequence_73 (by decide) ?_
  obtain ⟨b34, ho34, hc34, hk34, hF⟩ := dr_some hF
  refine W_st (st' := [.int (18 : Int32), .ref (ad32 b34), .int (0 : Int32), va_re ad32 (y29.2.2 a 2)]) (by rw [va_some ho34]) ?_
  obtain ⟨hvc, hF⟩ := chk_some hF
  refine va_iald hx hb hK hP b34 1 (wld_i ct ad32 (xt G L31) y29.2 hc34 hk34) rfl hvc dX0_writeSequence_75 ?_
  obtain ⟨x35, ex35, hF⟩ := ltt_some hF
  refine lv_topi (fun zx35 ezx35 => ?_)
  obtain rfl : x35 = zx35 := ex35.trans ezx35.symm
  obtain ⟨b36, ho36, hc36, hk36, hF⟩ := dr_some hF
  refine W_st (st' := [.int x35, .int (0 : Int32), .ref (ad32 b36)]) (by rw [va_some ho36]) ?_
  obtain ⟨y37, hy37, hF⟩ := bnd_some hF
  obtain ⟨w38, hF, ew38⟩ := app_some hF
  obtain ⟨L39, eL39, hF⟩ := ltt_some hF
  have hT39 : y.1 = (L31 ++ y37.1) ++ w38.1 := by rw [hT, ew38]; simp only [List.append_assoc]
  have hf9 := wA_in hD hA9 hS
  refine va_callv (va_runV (As := [.int (0 : Int32), .int x35]) (rest := []) ⟨hx, hb, hml, hown, hts⟩ (kX10_ue l D ct ad32 Z (xt G L31) y29.2 _ b36 ((0 : Int32)) x35 y37 hc36 hk36 hy37) (cwV 2 hts gX0_writeSequence_X10_ue rfl rfl rfl (by decide +kernel) ⟨Nat.le_of_ble_eq_true rfl, Nat.le_of_ble_eq_true rfl⟩) ⟨fun a U g mk q => by obtain ⟨q0, q1, qP, qK, qD, qZ, qN⟩ := q; exact ⟨q0, q1, qP, va_K.moved (u := U) (U := U.calling g mk a) (Vm.Alike.refl U.vm) qK, qD, sF.moved (u := U) (U := U.calling g mk a) (Vm.Alike.refl U.vm) qZ, nF.same rfl qN⟩, va_recv hK hP (ci := 10) (q0 := b36) rfl (wld_o ct ad32 (xt G L31) y29.2 hc36 hk36 (by decide)), fun U hU hW => ⟨rfl, by rw [hU], by rw [hU]; exact hP, va_K.moved hW.alike hK, hD.weaken (fun _ _ _ _ => trivial), by rw [hU]; exact ((hZ.kept hS.2.1).narrow hf9).moved hW.alike, hN.warm hW⟩⟩ rfl rfl hl.1 rfl (lv_room (Nat.le_of_ble_eq_true rfl)) dX0_writeSequence_76 (room_s hT39 hbl)) hS (fun q _ h => hf9 q h) hf9 (fun ad40 t H locs ht hvm hw hB hz1 hk1 hS => ?_)
  have hn41 := hw
  obtain ⟨hP, hK9, hD9⟩ := hB
  rw [ht] at hP
  have hD := hD9.weaken (fun _ q _ h => hf9 q.1 h)
  rw [xt_xt, ← eL39] at hP hD
  refine W_cs (k := L39.length) (n := wt L39) (by rw [eL39]; exact (len_s L31 y37.1).symm) (by rw [eL39]; exact (wt_app L31 y37.1).symm) ?_
  have hT : y.1 = L39 ++ w38.1 := by rw [hT39, eL39]
  have h2 : y.2 = w38.2 := by rw [h2, ew38]
  have hl := lv_sub (l' := [(0, .ref (ad32 a))]) hl [0] rfl
  have e9 : ([(0, .ref (ad32 a))] : List (Nat × Value)) = [(0, .ref (ad40 a))] := (by first | rfl | simp only [hn41 a hc])
  rw [e9] at hl
  clear e9
  have hk : (xt G L39).2.1 a = 0 := by rw [eL39]; exact xt_k _ hc hk
  have hc : a < (xt G L39).1 := by rw [eL39]; exact xt_l _ hc
  have hk2 : (xt G L39).2.1 b2 = 10 := by rw [eL39]; exact xt_k _ hc2 hk2
  have hc2 : b2 < (xt G L39).1 := by rw [eL39]; exact xt_l _ hc2
  have hk4 : (xt G L39).2.1 b4 = 10 := by rw [eL39]; exact xt_k _ hc4 hk4
  have hc4 : b4 < (xt G L39).1 := by rw [eL39]; exact xt_l _ hc4
  have hk10 : (xt G L39).2.1 b10 = 10 := by rw [eL39]; exact xt_k _ hc10 hk10
  have hc10 : b10 < (xt G L39).1 := by rw [eL39]; exact xt_l _ hc10
  have hk16 : (xt G L39).2.1 b16 = 10 := by rw [eL39]; exact xt_k _ hc16 hk16
  have hc16 : b16 < (xt G L39).1 := by rw [eL39]; exact xt_l _ hc16
  have hk22 : (xt G L39).2.1 b22 = 10 := by rw [eL39]; exact xt_k _ hc22 hk22
  have hc22 : b22 < (xt G L39).1 := by rw [eL39]; exact xt_l _ hc22
  have hk28 : (xt G L39).2.1 b28 = 10 := by rw [eL39]; exact xt_k _ hc28 hk28
  have hc28 : b28 < (xt G L39).1 := by rw [eL39]; exact xt_l _ hc28
  have hk34 : (xt G L39).2.1 b34 = 13 := by rw [eL39]; exact xt_k _ hc34 hk34
  have hc34 : b34 < (xt G L39).1 := by rw [eL39]; exact xt_l _ hc34
  have hk36 : (xt G L39).2.1 b36 = 10 := by rw [eL39]; exact xt_k _ hc36 hk36
  have hc36 : b36 < (xt G L39).1 := by rw [eL39]; exact xt_l _ hc36
  have hag := agr_t (xt_ge _ _) hag hn41
  refine lv_aload_n hx hb dX0_writeSequence_79 rfl (lv_at hl 0 rfl) ?_
  refine va_get (D := D) (ci := 0) (v := va_re ad40 (y37.2.2 a 1)) (C := RX0) (T := TX0) (N := 21) hx hb hts (mus hf_X0) hown hK hP a (wld_o ct ad40 (xt G L39) y37.2 hc hk (by decide)) rfl 1 (by decide) (hts (.fieldLink RX0 23 "VideoSuite$Coder" "now" "[I") (mu mw_813)) (fun _ h9 => h9) rfl dX0_writeSequence_80 ?_
  refine lv_bipush (v := (18 : Int32)) hx hb dX0_writeSequence_83 (by decide) ?_
  obtain ⟨b42, ho42, hc42, hk42, hF⟩ := dr_some hF
  refine W_st (st' := [.int (18 : Int32), .ref (ad40 b42)]) (by rw [va_some ho42]) ?_
  obtain ⟨hvc, hF⟩ := chk_some hF
  refine va_iald hx hb hK hP b42 1 (wld_i ct ad40 (xt G L39) y37.2 hc42 hk42) rfl hvc dX0_writeSequence_85 ?_
  obtain ⟨x43, ex43, hF⟩ := ltt_some hF
  refine lv_topi (fun zx43 ezx43 => ?_)
  obtain rfl : x43 = zx43 := ex43.trans ezx43.symm
  obtain ⟨y44, hy44, hF⟩ := bnd_some hF
  obtain ⟨w45, hF, ew45⟩ := app_some hF
  obtain ⟨L46, eL46, hF⟩ := ltt_some hF
  have hT46 : y.1 = (L39 ++ y44.1) ++ w45.1 := by rw [hT, ew45]; simp only [List.append_assoc]
  have hbl46 : L46.length ≤ y.1.length ∧ wt L46 ≤ wt y.1 := by rw [eL46]; exact room_d hT46 hbl
  have J44 : ∀ (ad47 : Nat → Nat), agr G.1 ad ad47 → ∀ (H : Heap) (locs : List Loc) (ls : Array Slot), va_P D classes (wld ct ad47 (xt G L46) y44.2) H → va_D A (wld ct ad47 (xt G L46) y44.2) → va_S A s.heap H locs → lv_has ls 1 [(0, .ref (ad47 a))] → W p l e (headSpec wuX0_writeSequence ({ frames := 6, cells := y.1.length, slots := wt y.1, locals := 198 })).room s m ([.ref (ad a)] : List Value).toArray below meth c H locs (L46 : NN).length (wt L46) (MQ below (va_Qv (fun (u : Nat → Nat) => agr G.1 ad u) (fun u t => kE D ct u (xt G y.1) A y.2 t) A) ([.ref (ad a)] : List Value).toArray s y.1.length (wt y.1) A) (F0 m 153 ls []) := by
    intro ad47 hag H locs ls hP hD hS hl
    have hT : y.1 = L46 ++ w45.1 := by rw [hT46, eL46]
    have h2 : y.2 = w45.2 := by rw [h2, ew45]
    have hk : (xt G L46).2.1 a = 0 := by rw [eL46]; exact xt_k _ hc hk
    have hc : a < (xt G L46).1 := by rw [eL46]; exact xt_l _ hc
    have hk2 : (xt G L46).2.1 b2 = 10 := by rw [eL46]; exact xt_k _ hc2 hk2
    have hc2 : b2 < (xt G L46).1 := by rw [eL46]; exact xt_l _ hc2
    have hk4 : (xt G L46).2.1 b4 = 10 := by rw [eL46]; exact xt_k _ hc4 hk4
    have hc4 : b4 < (xt G L46).1 := by rw [eL46]; exact xt_l _ hc4
    have hk10 : (xt G L46).2.1 b10 = 10 := by rw [eL46]; exact xt_k _ hc10 hk10
    have hc10 : b10 < (xt G L46).1 := by rw [eL46]; exact xt_l _ hc10
    have hk16 : (xt G L46).2.1 b16 = 10 := by rw [eL46]; exact xt_k _ hc16 hk16
    have hc16 : b16 < (xt G L46).1 := by rw [eL46]; exact xt_l _ hc16
    have hk22 : (xt G L46).2.1 b22 = 10 := by rw [eL46]; exact xt_k _ hc22 hk22
    have hc22 : b22 < (xt G L46).1 := by rw [eL46]; exact xt_l _ hc22
    have hk28 : (xt G L46).2.1 b28 = 10 := by rw [eL46]; exact xt_k _ hc28 hk28
    have hc28 : b28 < (xt G L46).1 := by rw [eL46]; exact xt_l _ hc28
    have hk34 : (xt G L46).2.1 b34 = 13 := by rw [eL46]; exact xt_k _ hc34 hk34
    have hc34 : b34 < (xt G L46).1 := by rw [eL46]; exact xt_l _ hc34
    have hk36 : (xt G L46).2.1 b36 = 10 := by rw [eL46]; exact xt_k _ hc36 hk36
    have hc36 : b36 < (xt G L46).1 := by rw [eL46]; exact xt_l _ hc36
    have hk42 : (xt G L46).2.1 b42 = 13 := by rw [eL46]; exact xt_k _ hc42 hk42
    have hc42 : b42 < (xt G L46).1 := by rw [eL46]; exact xt_l _ hc42
    refine lv_aload_n hx hb dX0_writeSequence_153 rfl (lv_at hl 0 rfl) ?_
    refine va_get (D := D) (ci := 0) (v := va_re ad47 (y44.2.2 a 2)) (C := RX0) (T := TX0) (N := 21) hx hb hts (mus hf_X0) hown hK hP a (wld_o ct ad47 (xt G L46) y44.2 hc hk (by decide)) rfl 2 (by decide) (hts (.fieldLink RX0 29 "VideoSuite$Coder" "writer" "LVideoSuite$Writer;") (mu mw_815)) (fun _ h9 => h9) rfl dX0_writeSequence_154 ?_
    refine lv_iconst (v := (0 : Int32)) hx hb dX0_writeSequence_157 (by decide) ?_
    refine lv_aload_n hx hb dX0_writeSequence_158 rfl (lv_at hl 0 rfl) ?_
    refine va_get (D := D) (ci := 0) (v := va_re ad47 (y44.2.2 a 1)) (C := RX0) (T := TX0) (N := 21) hx hb hts (mus hf_X0) hown hK hP a (wld_o ct ad47 (xt G L46) y44.2 hc hk (by decide)) rfl 1 (by decide) (hts (.fieldLink RX0 23 "VideoSuite$Coder" "now" "[I") (mu mw_813)) (fun _ h9 => h9) rfl dX0_writeSequence_159 ?_
    refine lv_bipush (v := (7 : Int32)) hx hb dX0_writeSequence_162 (by decide) ?_
    obtain ⟨b48, ho48, hc48, hk48, hF⟩ := dr_some hF
    refine W_st (st' := [.int (7 : Int32), .ref (ad47 b48), .int (0 : Int32), va_re ad47 (y44.2.2 a 2)]) (by rw [va_some ho48]) ?_
    obtain ⟨hvc, hF⟩ := chk_some hF
    refine va_iald hx hb hK hP b48 1 (wld_i ct ad47 (xt G L46) y44.2 hc48 hk48) rfl hvc dX0_writeSequence_164 ?_
    obtain ⟨x49, ex49, hF⟩ := ltt_some hF
    refine lv_topi (fun zx49 ezx49 => ?_)
    obtain rfl : x49 = zx49 := ex49.trans ezx49.symm
    obtain ⟨b50, ho50, hc50, hk50, hF⟩ := dr_some hF
    refine W_st (st' := [.int x49, .int (0 : Int32), .ref (ad47 b50)]) (by rw [va_some ho50]) ?_
    obtain ⟨y51, hy51, hF⟩ := bnd_some hF
    obtain ⟨w52, hF, ew52⟩ := app_some hF
    obtain ⟨L53, eL53, hF⟩ := ltt_some hF
    have hT53 : y.1 = (L46 ++ y51.1) ++ w52.1 := by rw [hT, ew52]; simp only [List.append_assoc]
    have hf9 := wA_in hD hA9 hS
    refine va_callv (va_runV (As := [.int (0 : Int32), .int x49]) (rest := []) ⟨hx, hb, hml, hown, hts⟩ (kX10_ue l D ct ad47 Z (xt G L46) y44.2 _ b50 ((0 : Int32)) x49 y51 hc50 hk50 hy51) (cwV 2 hts gX0_writeSequence_X10_ue rfl rfl rfl (by decide +kernel) ⟨Nat.le_of_ble_eq_true rfl, Nat.le_of_ble_eq_true rfl⟩) ⟨fun a U g mk q => by obtain ⟨q0, q1, qP, qK, qD, qZ, qN⟩ := q; exact ⟨q0, q1, qP, va_K.moved (u := U) (U := U.calling g mk a) (Vm.Alike.refl U.vm) qK, qD, sF.moved (u := U) (U := U.calling g mk a) (Vm.Alike.refl U.vm) qZ, nF.same rfl qN⟩, va_recv hK hP (ci := 10) (q0 := b50) rfl (wld_o ct ad47 (xt G L46) y44.2 hc50 hk50 (by decide)), fun U hU hW => ⟨rfl, by rw [hU], by rw [hU]; exact hP, va_K.moved hW.alike hK, hD.weaken (fun _ _ _ _ => trivial), by rw [hU]; exact ((hZ.kept hS.2.1).narrow hf9).moved hW.alike, hN.warm hW⟩⟩ rfl rfl hl.1 rfl (lv_room (Nat.le_of_ble_eq_true rfl)) dX0_writeSequence_165 (room_s hT53 hbl)) hS (fun q _ h => hf9 q h) hf9 (fun ad54 t H locs ht hvm hw hB hz1 hk1 hS => ?_)
    have hn55 := hw
    obtain ⟨hP, hK9, hD9⟩ := hB
    rw [ht] at hP
    have hD := hD9.weaken (fun _ q _ h => hf9 q.1 h)
    rw [xt_xt, ← eL53] at hP hD
    refine W_cs (k := L53.length) (n := wt L53) (by rw [eL53]; exact (len_s L46 y51.1).symm) (by rw [eL53]; exact (wt_app L46 y51.1).symm) ?_
    have hT : y.1 = L53 ++ w52.1 := by rw [hT53, eL53]
    have h2 : y.2 = w52.2 := by rw [h2, ew52]
    have hl := lv_sub (l' := [(0, .ref (ad47 a))]) hl [0] rfl
    have e9 : ([(0, .ref (ad47 a))] : List (Nat × Value)) = [(0, .ref (ad54 a))] := (by first | rfl | simp only [hn55 a hc])
    rw [e9] at hl
    clear e9
    have hk : (xt G L53).2.1 a = 0 := by rw [eL53]; exact xt_k _ hc hk
    have hc : a < (xt G L53).1 := by rw [eL53]; exact xt_l _ hc
    have hk2 : (xt G L53).2.1 b2 = 10 := by rw [eL53]; exact xt_k _ hc2 hk2
    have hc2 : b2 < (xt G L53).1 := by rw [eL53]; exact xt_l _ hc2
    have hk4 : (xt G L53).2.1 b4 = 10 := by rw [eL53]; exact xt_k _ hc4 hk4
    have hc4 : b4 < (xt G L53).1 := by rw [eL53]; exact xt_l _ hc4
    have hk10 : (xt G L53).2.1 b10 = 10 := by rw [eL53]; exact xt_k _ hc10 hk10
    have hc10 : b10 < (xt G L53).1 := by rw [eL53]; exact xt_l _ hc10
    have hk16 : (xt G L53).2.1 b16 = 10 := by rw [eL53]; exact xt_k _ hc16 hk16
    have hc16 : b16 < (xt G L53).1 := by rw [eL53]; exact xt_l _ hc16
    have hk22 : (xt G L53).2.1 b22 = 10 := by rw [eL53]; exact xt_k _ hc22 hk22
    have hc22 : b22 < (xt G L53).1 := by rw [eL53]; exact xt_l _ hc22
    have hk28 : (xt G L53).2.1 b28 = 10 := by rw [eL53]; exact xt_k _ hc28 hk28
    have hc28 : b28 < (xt G L53).1 := by rw [eL53]; exact xt_l _ hc28
    have hk34 : (xt G L53).2.1 b34 = 13 := by rw [eL53]; exact xt_k _ hc34 hk34
    have hc34 : b34 < (xt G L53).1 := by rw [eL53]; exact xt_l _ hc34
    have hk36 : (xt G L53).2.1 b36 = 10 := by rw [eL53]; exact xt_k _ hc36 hk36
    have hc36 : b36 < (xt G L53).1 := by rw [eL53]; exact xt_l _ hc36
    have hk42 : (xt G L53).2.1 b42 = 13 := by rw [eL53]; exact xt_k _ hc42 hk42
    have hc42 : b42 < (xt G L53).1 := by rw [eL53]; exact xt_l _ hc42
    have hk48 : (xt G L53).2.1 b48 = 13 := by rw [eL53]; exact xt_k _ hc48 hk48
    have hc48 : b48 < (xt G L53).1 := by rw [eL53]; exact xt_l _ hc48
    have hk50 : (xt G L53).2.1 b50 = 10 := by rw [eL53]; exact xt_k _ hc50 hk50
    have hc50 : b50 < (xt G L53).1 := by rw [eL53]; exact xt_l _ hc50
    have hag := agr_t (xt_ge _ _) hag hn55
    refine lv_aload_n hx hb dX0_writeSequence_168 rfl (lv_at hl 0 rfl) ?_
    refine lv_iconst (v := (0 : Int32)) hx hb dX0_writeSequence_169 (by decide) ?_
    obtain ⟨y56, hy56, hF⟩ := bnd_some hF
    obtain ⟨w57, hF, ew57⟩ := app_some hF
    obtain ⟨L58, eL58, hF⟩ := ltt_some hF
    have hT58 : y.1 = (L53 ++ y56.1) ++ w57.1 := by rw [hT, ew57]; simp only [List.append_assoc]
    have hf9 := wA_in hD hA9 hS
    refine va_callv (va_runV (As := [.int (0 : Int32)]) (rest := []) ⟨hx, hb, hml, hown, hts⟩ (kX0_flag l D ct ad54 Z (xt G L53) y51.2 _ a ((0 : Int32)) y56 hc hk hy56) (cwV 1 hts gX0_writeSequence_X0_flag rfl rfl rfl (by decide +kernel) ⟨Nat.le_of_ble_eq_true rfl, Nat.le_of_ble_eq_true rfl⟩) ⟨fun a U g mk q => by obtain ⟨q0, q1, qP, qK, qD, qZ, qN⟩ := q; exact ⟨q0, q1, qP, va_K.moved (u := U) (U := U.calling g mk a) (Vm.Alike.refl U.vm) qK, qD, sF.moved (u := U) (U := U.calling g mk a) (Vm.Alike.refl U.vm) qZ, nF.same rfl qN⟩, va_recv hK hP (ci := 0) (q0 := a) rfl (wld_o ct ad54 (xt G L53) y51.2 hc hk (by decide)), fun U hU hW => ⟨rfl, by rw [hU], by rw [hU]; exact hP, va_K.moved hW.alike hK, hD.weaken (fun _ _ _ _ => trivial), by rw [hU]; exact ((hZ.kept hS.2.1).narrow hf9).moved hW.alike, hN.warm hW⟩⟩ rfl rfl hl.1 rfl (lv_room (Nat.le_of_ble_eq_true rfl)) dX0_writeSequence_170 (room_s hT58 hbl)) hS (fun q _ h => hf9 q h) hf9 (fun ad59 t H locs ht hvm hw hB hz1 hk1 hS => ?_)
    have hn60 := hw
    obtain ⟨hP, hK9, hD9⟩ := hB
    rw [ht] at hP
    have hD := hD9.weaken (fun _ q _ h => hf9 q.1 h)
    rw [xt_xt, ← eL58] at hP hD
    refine W_cs (k := L58.length) (n := wt L58) (by rw [eL58]; exact (len_s L53 y56.1).symm) (by rw [eL58]; exact (wt_app L53 y56.1).symm) ?_
    have hT : y.1 = L58 ++ w57.1 := by rw [hT58, eL58]
    have h2 : y.2 = w57.2 := by rw [h2, ew57]
    have hl := lv_sub (l' := [(0, .ref (ad54 a))]) hl [0] rfl
    have e9 : ([(0, .ref (ad54 a))] : List (Nat × Value)) = [(0, .ref (ad59 a))] := (by first | rfl | simp only [hn60 a hc])
    rw [e9] at hl
    clear e9
    have hk : (xt G L58).2.1 a = 0 := by rw [eL58]; exact xt_k _ hc hk
    have hc : a < (xt G L58).1 := by rw [eL58]; exact xt_l _ hc
    have hk2 : (xt G L58).2.1 b2 = 10 := by rw [eL58]; exact xt_k _ hc2 hk2
    have hc2 : b2 < (xt G L58).1 := by rw [eL58]; exact xt_l _ hc2
    have hk4 : (xt G L58).2.1 b4 = 10 := by rw [eL58]; exact xt_k _ hc4 hk4
    have hc4 : b4 < (xt G L58).1 := by rw [eL58]; exact xt_l _ hc4
    have hk10 : (xt G L58).2.1 b10 = 10 := by rw [eL58]; exact xt_k _ hc10 hk10
    have hc10 : b10 < (xt G L58).1 := by rw [eL58]; exact xt_l _ hc10
    have hk16 : (xt G L58).2.1 b16 = 10 := by rw [eL58]; exact xt_k _ hc16 hk16
    have hc16 : b16 < (xt G L58).1 := by rw [eL58]; exact xt_l _ hc16
    have hk22 : (xt G L58).2.1 b22 = 10 := by rw [eL58]; exact xt_k _ hc22 hk22
    have hc22 : b22 < (xt G L58).1 := by rw [eL58]; exact xt_l _ hc22
    have hk28 : (xt G L58).2.1 b28 = 10 := by rw [eL58]; exact xt_k _ hc28 hk28
    have hc28 : b28 < (xt G L58).1 := by rw [eL58]; exact xt_l _ hc28
    have hk34 : (xt G L58).2.1 b34 = 13 := by rw [eL58]; exact xt_k _ hc34 hk34
    have hc34 : b34 < (xt G L58).1 := by rw [eL58]; exact xt_l _ hc34
    have hk36 : (xt G L58).2.1 b36 = 10 := by rw [eL58]; exact xt_k _ hc36 hk36
    have hc36 : b36 < (xt G L58).1 := by rw [eL58]; exact xt_l _ hc36
    have hk42 : (xt G L58).2.1 b42 = 13 := by rw [eL58]; exact xt_k _ hc42 hk42
    have hc42 : b42 < (xt G L58).1 := by rw [eL58]; exact xt_l _ hc42
    have hk48 : (xt G L58).2.1 b48 = 13 := by rw [eL58]; exact xt_k _ hc48 hk48
    have hc48 : b48 < (xt G L58).1 := by rw [eL58]; exact xt_l _ hc48
    have hk50 : (xt G L58).2.1 b50 = 10 := by rw [eL58]; exact xt_k _ hc50 hk50
    have hc50 : b50 < (xt G L58).1 := by rw [eL58]; exact xt_l _ hc50
    have hag := agr_t (xt_ge _ _) hag hn60
    refine lv_aload_n hx hb dX0_writeSequence_173 rfl (lv_at hl 0 rfl) ?_
    refine va_get (D := D) (ci := 0) (v := va_re ad59 (y56.2.2 a 2)) (C := RX0) (T := TX0) (N := 21) hx hb hts (mus hf_X0) hown hK hP a (wld_o ct ad59 (xt G L58) y56.2 hc hk (by decide)) rfl 2 (by decide) (hts (.fieldLink RX0 29 "VideoSuite$Coder" "writer" "LVideoSuite$Writer;") (mu mw_815)) (fun _ h9 => h9) rfl dX0_writeSequence_174 ?_
    refine lv_iconst (v := (0 : Int32)) hx hb dX0_writeSequence_177 (by decide) ?_
    refine lv_aload_n hx hb dX0_writeSequence_178 rfl (lv_at hl 0 rfl) ?_
    refine va_get (D := D) (ci := 0) (v := va_re ad59 (y56.2.2 a 1)) (C := RX0) (T := TX0) (N := 21) hx hb hts (mus hf_X0) hown hK hP a (wld_o ct ad59 (xt G L58) y56.2 hc hk (by decide)) rfl 1 (by decide) (hts (.fieldLink RX0 23 "VideoSuite$Coder" "now" "[I") (mu mw_813)) (fun _ h9 => h9) rfl dX0_writeSequence_179 ?_
    refine lv_iconst (v := (0 : Int32)) hx hb dX0_writeSequence_182 (by decide) ?_
    obtain ⟨b61, ho61, hc61, hk61, hF⟩ := dr_some hF
    refine W_st (st' := [.int (0 : Int32), .ref (ad59 b61), .int (0 : Int32), va_re ad59 (y56.2.2 a 2)]) (by rw [va_some ho61]) ?_
    obtain ⟨hvc, hF⟩ := chk_some hF
    refine va_iald hx hb hK hP b61 1 (wld_i ct ad59 (xt G L58) y56.2 hc61 hk61) rfl hvc dX0_writeSequence_183 ?_
    obtain ⟨x62, ex62, hF⟩ := ltt_some hF
    refine lv_topi (fun zx62 ezx62 => ?_)
    obtain rfl : x62 = zx62 := ex62.trans ezx62.symm
    refine lv_iconst (v := (1 : Int32)) hx hb dX0_writeSequence_184 (by decide) ?_
    refine lv_isub hx hb dX0_writeSequence_185 ?_
    obtain ⟨x63, ex63, hF⟩ := ltt_some hF
    refine lv_topi (fun zx63 ezx63 => ?_)
    obtain rfl : x63 = zx63 := ex63.trans ezx63.symm
    obtain ⟨b64, ho64, hc64, hk64, hF⟩ := dr_some hF
    refine W_st (st' := [.int x63, .int (0 : Int32), .ref (ad59 b64)]) (by rw [va_some ho64]) ?_
    obtain ⟨y65, hy65, hF⟩ := bnd_some hF
    obtain ⟨w66, hF, ew66⟩ := app_some hF
    obtain ⟨L67, eL67, hF⟩ := ltt_some hF
    have hT67 : y.1 = (L58 ++ y65.1) ++ w66.1 := by rw [hT, ew66]; simp only [List.append_assoc]
    have hf9 := wA_in hD hA9 hS
    refine va_callv (va_runV (As := [.int (0 : Int32), .int x63]) (rest := []) ⟨hx, hb, hml, hown, hts⟩ (kX10_ue l D ct ad59 Z (xt G L58) y56.2 _ b64 ((0 : Int32)) x63 y65 hc64 hk64 hy65) (cwV 2 hts gX0_writeSequence_X10_ue rfl rfl rfl (by decide +kernel) ⟨Nat.le_of_ble_eq_true rfl, Nat.le_of_ble_eq_true rfl⟩) ⟨fun a U g mk q => by obtain ⟨q0, q1, qP, qK, qD, qZ, qN⟩ := q; exact ⟨q0, q1, qP, va_K.moved (u := U) (U := U.calling g mk a) (Vm.Alike.refl U.vm) qK, qD, sF.moved (u := U) (U := U.calling g mk a) (Vm.Alike.refl U.vm) qZ, nF.same rfl qN⟩, va_recv hK hP (ci := 10) (q0 := b64) rfl (wld_o ct ad59 (xt G L58) y56.2 hc64 hk64 (by decide)), fun U hU hW => ⟨rfl, by rw [hU], by rw [hU]; exact hP, va_K.moved hW.alike hK, hD.weaken (fun _ _ _ _ => trivial), by rw [hU]; exact ((hZ.kept hS.2.1).narrow hf9).moved hW.alike, hN.warm hW⟩⟩ rfl rfl hl.1 rfl (lv_room (Nat.le_of_ble_eq_true rfl)) dX0_writeSequence_186 (room_s hT67 hbl)) hS (fun q _ h => hf9 q h) hf9 (fun ad68 t H locs ht hvm hw hB hz1 hk1 hS => ?_)
    have hn69 := hw
    obtain ⟨hP, hK9, hD9⟩ := hB
    rw [ht] at hP
    have hD := hD9.weaken (fun _ q _ h => hf9 q.1 h)
    rw [xt_xt, ← eL67] at hP hD
    refine W_cs (k := L67.length) (n := wt L67) (by rw [eL67]; exact (len_s L58 y65.1).symm) (by rw [eL67]; exact (wt_app L58 y65.1).symm) ?_
    have hT : y.1 = L67 ++ w66.1 := by rw [hT67, eL67]
    have h2 : y.2 = w66.2 := by rw [h2, ew66]
    have hl := lv_sub (l' := [(0, .ref (ad59 a))]) hl [0] rfl
    have e9 : ([(0, .ref (ad59 a))] : List (Nat × Value)) = [(0, .ref (ad68 a))] := (by first | rfl | simp only [hn69 a hc])
    rw [e9] at hl
    clear e9
    have hk : (xt G L67).2.1 a = 0 := by rw [eL67]; exact xt_k _ hc hk
    have hc : a < (xt G L67).1 := by rw [eL67]; exact xt_l _ hc
    have hk2 : (xt G L67).2.1 b2 = 10 := by rw [eL67]; exact xt_k _ hc2 hk2
    have hc2 : b2 < (xt G L67).1 := by rw [eL67]; exact xt_l _ hc2
    have hk4 : (xt G L67).2.1 b4 = 10 := by rw [eL67]; exact xt_k _ hc4 hk4
    have hc4 : b4 < (xt G L67).1 := by rw [eL67]; exact xt_l _ hc4
    have hk10 : (xt G L67).2.1 b10 = 10 := by rw [eL67]; exact xt_k _ hc10 hk10
    have hc10 : b10 < (xt G L67).1 := by rw [eL67]; exact xt_l _ hc10
    have hk16 : (xt G L67).2.1 b16 = 10 := by rw [eL67]; exact xt_k _ hc16 hk16
    have hc16 : b16 < (xt G L67).1 := by rw [eL67]; exact xt_l _ hc16
    have hk22 : (xt G L67).2.1 b22 = 10 := by rw [eL67]; exact xt_k _ hc22 hk22
    have hc22 : b22 < (xt G L67).1 := by rw [eL67]; exact xt_l _ hc22
    have hk28 : (xt G L67).2.1 b28 = 10 := by rw [eL67]; exact xt_k _ hc28 hk28
    have hc28 : b28 < (xt G L67).1 := by rw [eL67]; exact xt_l _ hc28
    have hk34 : (xt G L67).2.1 b34 = 13 := by rw [eL67]; exact xt_k _ hc34 hk34
    have hc34 : b34 < (xt G L67).1 := by rw [eL67]; exact xt_l _ hc34
    have hk36 : (xt G L67).2.1 b36 = 10 := by rw [eL67]; exact xt_k _ hc36 hk36
    have hc36 : b36 < (xt G L67).1 := by rw [eL67]; exact xt_l _ hc36
    have hk42 : (xt G L67).2.1 b42 = 13 := by rw [eL67]; exact xt_k _ hc42 hk42
    have hc42 : b42 < (xt G L67).1 := by rw [eL67]; exact xt_l _ hc42
    have hk48 : (xt G L67).2.1 b48 = 13 := by rw [eL67]; exact xt_k _ hc48 hk48
    have hc48 : b48 < (xt G L67).1 := by rw [eL67]; exact xt_l _ hc48
    have hk50 : (xt G L67).2.1 b50 = 10 := by rw [eL67]; exact xt_k _ hc50 hk50
    have hc50 : b50 < (xt G L67).1 := by rw [eL67]; exact xt_l _ hc50
    have hk61 : (xt G L67).2.1 b61 = 13 := by rw [eL67]; exact xt_k _ hc61 hk61
    have hc61 : b61 < (xt G L67).1 := by rw [eL67]; exact xt_l _ hc61
    have hk64 : (xt G L67).2.1 b64 = 10 := by rw [eL67]; exact xt_k _ hc64 hk64
    have hc64 : b64 < (xt G L67).1 := by rw [eL67]; exact xt_l _ hc64
    have hag := agr_t (xt_ge _ _) hag hn69
    refine lv_aload_n hx hb dX0_writeSequence_189 rfl (lv_at hl 0 rfl) ?_
    refine va_get (D := D) (ci := 0) (v := va_re ad68 (y65.2.2 a 2)) (C := RX0) (T := TX0) (N := 21) hx hb hts (mus hf_X0) hown hK hP a (wld_o ct ad68 (xt G L67) y65.2 hc hk (by decide)) rfl 2 (by decide) (hts (.fieldLink RX0 29 "VideoSuite$Coder" "writer" "LVideoSuite$Writer;") (mu mw_815)) (fun _ h9 => h9) rfl dX0_writeSequence_190 ?_
    refine lv_iconst (v := (0 : Int32)) hx hb dX0_writeSequence_193 (by decide) ?_
    refine lv_aload_n hx hb dX0_writeSequence_194 rfl (lv_at hl 0 rfl) ?_
    refine va_get (D := D) (ci := 0) (v := va_re ad68 (y65.2.2 a 1)) (C := RX0) (T := TX0) (N := 21) hx hb hts (mus hf_X0) hown hK hP a (wld_o ct ad68 (xt G L67) y65.2 hc hk (by decide)) rfl 1 (by decide) (hts (.fieldLink RX0 23 "VideoSuite$Coder" "now" "[I") (mu mw_813)) (fun _ h9 => h9) rfl dX0_writeSequence_195 ?_
    refine lv_iconst (v := (1 : Int32)) hx hb dX0_writeSequence_198 (by decide) ?_
    obtain ⟨b70, ho70, hc70, hk70, hF⟩ := dr_some hF
    refine W_st (st' := [.int (1 : Int32), .ref (ad68 b70), .int (0 : Int32), va_re ad68 (y65.2.2 a 2)]) (by rw [va_some ho70]) ?_
    obtain ⟨hvc, hF⟩ := chk_some hF
    refine va_iald hx hb hK hP b70 1 (wld_i ct ad68 (xt G L67) y65.2 hc70 hk70) rfl hvc dX0_writeSequence_199 ?_
    obtain ⟨x71, ex71, hF⟩ := ltt_some hF
    refine lv_topi (fun zx71 ezx71 => ?_)
    obtain rfl : x71 = zx71 := ex71.trans ezx71.symm
    refine lv_iconst (v := (1 : Int32)) hx hb dX0_writeSequence_200 (by decide) ?_
    refine lv_isub hx hb dX0_writeSequence_201 ?_
    obtain ⟨x72, ex72, hF⟩ := ltt_some hF
    refine lv_topi (fun zx72 ezx72 => ?_)
    obtain rfl : x72 = zx72 := ex72.trans ezx72.symm
    obtain ⟨b73, ho73, hc73, hk73, hF⟩ := dr_some hF
    refine W_st (st' := [.int x72, .int (0 : Int32), .ref (ad68 b73)]) (by rw [va_some ho73]) ?_
    obtain ⟨y74, hy74, hF⟩ := bnd_some hF
    obtain ⟨w75, hF, ew75⟩ := app_some hF
    obtain ⟨L76, eL76, hF⟩ := ltt_some hF
    have hT76 : y.1 = (L67 ++ y74.1) ++ w75.1 := by rw [hT, ew75]; simp only [List.append_assoc]
    have hf9 := wA_in hD hA9 hS
    refine va_callv (va_runV (As := [.int (0 : Int32), .int x72]) (rest := []) ⟨hx, hb, hml, hown, hts⟩ (kX10_ue l D ct ad68 Z (xt G L67) y65.2 _ b73 ((0 : Int32)) x72 y74 hc73 hk73 hy74) (cwV 2 hts gX0_writeSequence_X10_ue rfl rfl rfl (by decide +kernel) ⟨Nat.le_of_ble_eq_true rfl, Nat.le_of_ble_eq_true rfl⟩) ⟨fun a U g mk q => by obtain ⟨q0, q1, qP, qK, qD, qZ, qN⟩ := q; exact ⟨q0, q1, qP, va_K.moved (u := U) (U := U.calling g mk a) (Vm.Alike.refl U.vm) qK, qD, sF.moved (u := U) (U := U.calling g mk a) (Vm.Alike.refl U.vm) qZ, nF.same rfl qN⟩, va_recv hK hP (ci := 10) (q0 := b73) rfl (wld_o ct ad68 (xt G L67) y65.2 hc73 hk73 (by decide)), fun U hU hW => ⟨rfl, by rw [hU], by rw [hU]; exact hP, va_K.moved hW.alike hK, hD.weaken (fun _ _ _ _ => trivial), by rw [hU]; exact ((hZ.kept hS.2.1).narrow hf9).moved hW.alike, hN.warm hW⟩⟩ rfl rfl hl.1 rfl (lv_room (Nat.le_of_ble_eq_true rfl)) dX0_writeSequence_202 (room_s hT76 hbl)) hS (fun q _ h => hf9 q h) hf9 (fun ad77 t H locs ht hvm hw hB hz1 hk1 hS => ?_)
    have hn78 := hw
    obtain ⟨hP, hK9, hD9⟩ := hB
    rw [ht] at hP
    have hD := hD9.weaken (fun _ q _ h => hf9 q.1 h)
    rw [xt_xt, ← eL76] at hP hD
    refine W_cs (k := L76.length) (n := wt L76) (by rw [eL76]; exact (len_s L67 y74.1).symm) (by rw [eL76]; exact (wt_app L67 y74.1).symm) ?_
    have hT : y.1 = L76 ++ w75.1 := by rw [hT76, eL76]
    have h2 : y.2 = w75.2 := by rw [h2, ew75]
    have hl := lv_sub (l' := [(0, .ref (ad68 a))]) hl [0] rfl
    have e9 : ([(0, .ref (ad68 a))] : List (Nat × Value)) = [(0, .ref (ad77 a))] := (by first | rfl | simp only [hn78 a hc])
    rw [e9] at hl
    clear e9
    have hk : (xt G L76).2.1 a = 0 := by rw [eL76]; exact xt_k _ hc hk
    have hc : a < (xt G L76).1 := by rw [eL76]; exact xt_l _ hc
    have hk2 : (xt G L76).2.1 b2 = 10 := by rw [eL76]; exact xt_k _ hc2 hk2
    have hc2 : b2 < (xt G L76).1 := by rw [eL76]; exact xt_l _ hc2
    have hk4 : (xt G L76).2.1 b4 = 10 := by rw [eL76]; exact xt_k _ hc4 hk4
    have hc4 : b4 < (xt G L76).1 := by rw [eL76]; exact xt_l _ hc4
    have hk10 : (xt G L76).2.1 b10 = 10 := by rw [eL76]; exact xt_k _ hc10 hk10
    have hc10 : b10 < (xt G L76).1 := by rw [eL76]; exact xt_l _ hc10
    have hk16 : (xt G L76).2.1 b16 = 10 := by rw [eL76]; exact xt_k _ hc16 hk16
    have hc16 : b16 < (xt G L76).1 := by rw [eL76]; exact xt_l _ hc16
    have hk22 : (xt G L76).2.1 b22 = 10 := by rw [eL76]; exact xt_k _ hc22 hk22
    have hc22 : b22 < (xt G L76).1 := by rw [eL76]; exact xt_l _ hc22
    have hk28 : (xt G L76).2.1 b28 = 10 := by rw [eL76]; exact xt_k _ hc28 hk28
    have hc28 : b28 < (xt G L76).1 := by rw [eL76]; exact xt_l _ hc28
    have hk34 : (xt G L76).2.1 b34 = 13 := by rw [eL76]; exact xt_k _ hc34 hk34
    have hc34 : b34 < (xt G L76).1 := by rw [eL76]; exact xt_l _ hc34
    have hk36 : (xt G L76).2.1 b36 = 10 := by rw [eL76]; exact xt_k _ hc36 hk36
    have hc36 : b36 < (xt G L76).1 := by rw [eL76]; exact xt_l _ hc36
    have hk42 : (xt G L76).2.1 b42 = 13 := by rw [eL76]; exact xt_k _ hc42 hk42
    have hc42 : b42 < (xt G L76).1 := by rw [eL76]; exact xt_l _ hc42
    have hk48 : (xt G L76).2.1 b48 = 13 := by rw [eL76]; exact xt_k _ hc48 hk48
    have hc48 : b48 < (xt G L76).1 := by rw [eL76]; exact xt_l _ hc48
    have hk50 : (xt G L76).2.1 b50 = 10 := by rw [eL76]; exact xt_k _ hc50 hk50
    have hc50 : b50 < (xt G L76).1 := by rw [eL76]; exact xt_l _ hc50
    have hk61 : (xt G L76).2.1 b61 = 13 := by rw [eL76]; exact xt_k _ hc61 hk61
    have hc61 : b61 < (xt G L76).1 := by rw [eL76]; exact xt_l _ hc61
    have hk64 : (xt G L76).2.1 b64 = 10 := by rw [eL76]; exact xt_k _ hc64 hk64
    have hc64 : b64 < (xt G L76).1 := by rw [eL76]; exact xt_l _ hc64
    have hk70 : (xt G L76).2.1 b70 = 13 := by rw [eL76]; exact xt_k _ hc70 hk70
    have hc70 : b70 < (xt G L76).1 := by rw [eL76]; exact xt_l _ hc70
    have hk73 : (xt G L76).2.1 b73 = 10 := by rw [eL76]; exact xt_k _ hc73 hk73
    have hc73 : b73 < (xt G L76).1 := by rw [eL76]; exact xt_l _ hc73
    have hag := agr_t (xt_ge _ _) hag hn78
    refine lv_aload_n hx hb dX0_writeSequence_205 rfl (lv_at hl 0 rfl) ?_
    refine lv_iconst (v := (1 : Int32)) hx hb dX0_writeSequence_206 (by decide) ?_
    obtain ⟨y79, hy79, hF⟩ := bnd_some hF
    obtain ⟨w80, hF, ew80⟩ := app_some hF
    obtain ⟨L81, eL81, hF⟩ := ltt_some hF
    have hT81 : y.1 = (L76 ++ y79.1) ++ w80.1 := by rw [hT, ew80]; simp only [List.append_assoc]
    have hf9 := wA_in hD hA9 hS
    refine va_callv (va_runV (As := [.int (1 : Int32)]) (rest := []) ⟨hx, hb, hml, hown, hts⟩ (kX0_flag l D ct ad77 Z (xt G L76) y74.2 _ a ((1 : Int32)) y79 hc hk hy79) (cwV 1 hts gX0_writeSequence_X0_flag rfl rfl rfl (by decide +kernel) ⟨Nat.le_of_ble_eq_true rfl, Nat.le_of_ble_eq_true rfl⟩) ⟨fun a U g mk q => by obtain ⟨q0, q1, qP, qK, qD, qZ, qN⟩ := q; exact ⟨q0, q1, qP, va_K.moved (u := U) (U := U.calling g mk a) (Vm.Alike.refl U.vm) qK, qD, sF.moved (u := U) (U := U.calling g mk a) (Vm.Alike.refl U.vm) qZ, nF.same rfl qN⟩, va_recv hK hP (ci := 0) (q0 := a) rfl (wld_o ct ad77 (xt G L76) y74.2 hc hk (by decide)), fun U hU hW => ⟨rfl, by rw [hU], by rw [hU]; exact hP, va_K.moved hW.alike hK, hD.weaken (fun _ _ _ _ => trivial), by rw [hU]; exact ((hZ.kept hS.2.1).narrow hf9).moved hW.alike, hN.warm hW⟩⟩ rfl rfl hl.1 rfl (lv_room (Nat.le_of_ble_eq_true rfl)) dX0_writeSequence_207 (room_s hT81 hbl)) hS (fun q _ h => hf9 q h) hf9 (fun ad82 t H locs ht hvm hw hB hz1 hk1 hS => ?_)
    have hn83 := hw
    obtain ⟨hP, hK9, hD9⟩ := hB
    rw [ht] at hP
    have hD := hD9.weaken (fun _ q _ h => hf9 q.1 h)
    rw [xt_xt, ← eL81] at hP hD
    refine W_cs (k := L81.length) (n := wt L81) (by rw [eL81]; exact (len_s L76 y79.1).symm) (by rw [eL81]; exact (wt_app L76 y79.1).symm) ?_
    have hT : y.1 = L81 ++ w80.1 := by rw [hT81, eL81]
    have h2 : y.2 = w80.2 := by rw [h2, ew80]
    have hl := lv_sub (l' := [(0, .ref (ad77 a))]) hl [0] rfl
    have e9 : ([(0, .ref (ad77 a))] : List (Nat × Value)) = [(0, .ref (ad82 a))] := (by first | rfl | simp only [hn83 a hc])
    rw [e9] at hl
    clear e9
    have hk : (xt G L81).2.1 a = 0 := by rw [eL81]; exact xt_k _ hc hk
    have hc : a < (xt G L81).1 := by rw [eL81]; exact xt_l _ hc
    have hk2 : (xt G L81).2.1 b2 = 10 := by rw [eL81]; exact xt_k _ hc2 hk2
    have hc2 : b2 < (xt G L81).1 := by rw [eL81]; exact xt_l _ hc2
    have hk4 : (xt G L81).2.1 b4 = 10 := by rw [eL81]; exact xt_k _ hc4 hk4
    have hc4 : b4 < (xt G L81).1 := by rw [eL81]; exact xt_l _ hc4
    have hk10 : (xt G L81).2.1 b10 = 10 := by rw [eL81]; exact xt_k _ hc10 hk10
    have hc10 : b10 < (xt G L81).1 := by rw [eL81]; exact xt_l _ hc10
    have hk16 : (xt G L81).2.1 b16 = 10 := by rw [eL81]; exact xt_k _ hc16 hk16
    have hc16 : b16 < (xt G L81).1 := by rw [eL81]; exact xt_l _ hc16
    have hk22 : (xt G L81).2.1 b22 = 10 := by rw [eL81]; exact xt_k _ hc22 hk22
    have hc22 : b22 < (xt G L81).1 := by rw [eL81]; exact xt_l _ hc22
    have hk28 : (xt G L81).2.1 b28 = 10 := by rw [eL81]; exact xt_k _ hc28 hk28
    have hc28 : b28 < (xt G L81).1 := by rw [eL81]; exact xt_l _ hc28
    have hk34 : (xt G L81).2.1 b34 = 13 := by rw [eL81]; exact xt_k _ hc34 hk34
    have hc34 : b34 < (xt G L81).1 := by rw [eL81]; exact xt_l _ hc34
    have hk36 : (xt G L81).2.1 b36 = 10 := by rw [eL81]; exact xt_k _ hc36 hk36
    have hc36 : b36 < (xt G L81).1 := by rw [eL81]; exact xt_l _ hc36
    have hk42 : (xt G L81).2.1 b42 = 13 := by rw [eL81]; exact xt_k _ hc42 hk42
    have hc42 : b42 < (xt G L81).1 := by rw [eL81]; exact xt_l _ hc42
    have hk48 : (xt G L81).2.1 b48 = 13 := by rw [eL81]; exact xt_k _ hc48 hk48
    have hc48 : b48 < (xt G L81).1 := by rw [eL81]; exact xt_l _ hc48
    have hk50 : (xt G L81).2.1 b50 = 10 := by rw [eL81]; exact xt_k _ hc50 hk50
    have hc50 : b50 < (xt G L81).1 := by rw [eL81]; exact xt_l _ hc50
    have hk61 : (xt G L81).2.1 b61 = 13 := by rw [eL81]; exact xt_k _ hc61 hk61
    have hc61 : b61 < (xt G L81).1 := by rw [eL81]; exact xt_l _ hc61
    have hk64 : (xt G L81).2.1 b64 = 10 := by rw [eL81]; exact xt_k _ hc64 hk64
    have hc64 : b64 < (xt G L81).1 := by rw [eL81]; exact xt_l _ hc64
    have hk70 : (xt G L81).2.1 b70 = 13 := by rw [eL81]; exact xt_k _ hc70 hk70
    have hc70 : b70 < (xt G L81).1 := by rw [eL81]; exact xt_l _ hc70
    have hk73 : (xt G L81).2.1 b73 = 10 := by rw [eL81]; exact xt_k _ hc73 hk73
    have hc73 : b73 < (xt G L81).1 := by rw [eL81]; exact xt_l _ hc73
    have hag := agr_t (xt_ge _ _) hag hn83
    refine lv_aload_n hx hb dX0_writeSequence_210 rfl (lv_at hl 0 rfl) ?_
    refine lv_iconst (v := (1 : Int32)) hx hb dX0_writeSequence_211 (by decide) ?_
    obtain ⟨y84, hy84, hF⟩ := bnd_some hF
    obtain ⟨w85, hF, ew85⟩ := app_some hF
    obtain ⟨L86, eL86, hF⟩ := ltt_some hF
    have hT86 : y.1 = (L81 ++ y84.1) ++ w85.1 := by rw [hT, ew85]; simp only [List.append_assoc]
    have hf9 := wA_in hD hA9 hS
    refine va_callv (va_runV (As := [.int (1 : Int32)]) (rest := []) ⟨hx, hb, hml, hown, hts⟩ (kX0_flag l D ct ad82 Z (xt G L81) y79.2 _ a ((1 : Int32)) y84 hc hk hy84) (cwV 1 hts gX0_writeSequence_X0_flag rfl rfl rfl (by decide +kernel) ⟨Nat.le_of_ble_eq_true rfl, Nat.le_of_ble_eq_true rfl⟩) ⟨fun a U g mk q => by obtain ⟨q0, q1, qP, qK, qD, qZ, qN⟩ := q; exact ⟨q0, q1, qP, va_K.moved (u := U) (U := U.calling g mk a) (Vm.Alike.refl U.vm) qK, qD, sF.moved (u := U) (U := U.calling g mk a) (Vm.Alike.refl U.vm) qZ, nF.same rfl qN⟩, va_recv hK hP (ci := 0) (q0 := a) rfl (wld_o ct ad82 (xt G L81) y79.2 hc hk (by decide)), fun U hU hW => ⟨rfl, by rw [hU], by rw [hU]; exact hP, va_K.moved hW.alike hK, hD.weaken (fun _ _ _ _ => trivial), by rw [hU]; exact ((hZ.kept hS.2.1).narrow hf9).moved hW.alike, hN.warm hW⟩⟩ rfl rfl hl.1 rfl (lv_room (Nat.le_of_ble_eq_true rfl)) dX0_writeSequence_212 (room_s hT86 hbl)) hS (fun q _ h => hf9 q h) hf9 (fun ad87 t H locs ht hvm hw hB hz1 hk1 hS => ?_)
    have hn88 := hw
    obtain ⟨hP, hK9, hD9⟩ := hB
    rw [ht] at hP
    have hD := hD9.weaken (fun _ q _ h => hf9 q.1 h)
    rw [xt_xt, ← eL86] at hP hD
    refine W_cs (k := L86.length) (n := wt L86) (by rw [eL86]; exact (len_s L81 y84.1).symm) (by rw [eL86]; exact (wt_app L81 y84.1).symm) ?_
    have hT : y.1 = L86 ++ w85.1 := by rw [hT86, eL86]
    have h2 : y.2 = w85.2 := by rw [h2, ew85]
    have hl := lv_sub (l' := [(0, .ref (ad82 a))]) hl [0] rfl
    have e9 : ([(0, .ref (ad82 a))] : List (Nat × Value)) = [(0, .ref (ad87 a))] := (by first | rfl | simp only [hn88 a hc])
    rw [e9] at hl
    clear e9
    have hk : (xt G L86).2.1 a = 0 := by rw [eL86]; exact xt_k _ hc hk
    have hc : a < (xt G L86).1 := by rw [eL86]; exact xt_l _ hc
    have hk2 : (xt G L86).2.1 b2 = 10 := by rw [eL86]; exact xt_k _ hc2 hk2
    have hc2 : b2 < (xt G L86).1 := by rw [eL86]; exact xt_l _ hc2
    have hk4 : (xt G L86).2.1 b4 = 10 := by rw [eL86]; exact xt_k _ hc4 hk4
    have hc4 : b4 < (xt G L86).1 := by rw [eL86]; exact xt_l _ hc4
    have hk10 : (xt G L86).2.1 b10 = 10 := by rw [eL86]; exact xt_k _ hc10 hk10
    have hc10 : b10 < (xt G L86).1 := by rw [eL86]; exact xt_l _ hc10
    have hk16 : (xt G L86).2.1 b16 = 10 := by rw [eL86]; exact xt_k _ hc16 hk16
    have hc16 : b16 < (xt G L86).1 := by rw [eL86]; exact xt_l _ hc16
    have hk22 : (xt G L86).2.1 b22 = 10 := by rw [eL86]; exact xt_k _ hc22 hk22
    have hc22 : b22 < (xt G L86).1 := by rw [eL86]; exact xt_l _ hc22
    have hk28 : (xt G L86).2.1 b28 = 10 := by rw [eL86]; exact xt_k _ hc28 hk28
    have hc28 : b28 < (xt G L86).1 := by rw [eL86]; exact xt_l _ hc28
    have hk34 : (xt G L86).2.1 b34 = 13 := by rw [eL86]; exact xt_k _ hc34 hk34
    have hc34 : b34 < (xt G L86).1 := by rw [eL86]; exact xt_l _ hc34
    have hk36 : (xt G L86).2.1 b36 = 10 := by rw [eL86]; exact xt_k _ hc36 hk36
    have hc36 : b36 < (xt G L86).1 := by rw [eL86]; exact xt_l _ hc36
    have hk42 : (xt G L86).2.1 b42 = 13 := by rw [eL86]; exact xt_k _ hc42 hk42
    have hc42 : b42 < (xt G L86).1 := by rw [eL86]; exact xt_l _ hc42
    have hk48 : (xt G L86).2.1 b48 = 13 := by rw [eL86]; exact xt_k _ hc48 hk48
    have hc48 : b48 < (xt G L86).1 := by rw [eL86]; exact xt_l _ hc48
    have hk50 : (xt G L86).2.1 b50 = 10 := by rw [eL86]; exact xt_k _ hc50 hk50
    have hc50 : b50 < (xt G L86).1 := by rw [eL86]; exact xt_l _ hc50
    have hk61 : (xt G L86).2.1 b61 = 13 := by rw [eL86]; exact xt_k _ hc61 hk61
    have hc61 : b61 < (xt G L86).1 := by rw [eL86]; exact xt_l _ hc61
    have hk64 : (xt G L86).2.1 b64 = 10 := by rw [eL86]; exact xt_k _ hc64 hk64
    have hc64 : b64 < (xt G L86).1 := by rw [eL86]; exact xt_l _ hc64
    have hk70 : (xt G L86).2.1 b70 = 13 := by rw [eL86]; exact xt_k _ hc70 hk70
    have hc70 : b70 < (xt G L86).1 := by rw [eL86]; exact xt_l _ hc70
    have hk73 : (xt G L86).2.1 b73 = 10 := by rw [eL86]; exact xt_k _ hc73 hk73
    have hc73 : b73 < (xt G L86).1 := by rw [eL86]; exact xt_l _ hc73
    have hag := agr_t (xt_ge _ _) hag hn88
    refine lv_aload_n hx hb dX0_writeSequence_215 rfl (lv_at hl 0 rfl) ?_
    refine lv_iconst (v := (0 : Int32)) hx hb dX0_writeSequence_216 (by decide) ?_
    obtain ⟨y89, hy89, hF⟩ := bnd_some hF
    obtain ⟨w90, hF, ew90⟩ := app_some hF
    obtain ⟨L91, eL91, hF⟩ := ltt_some hF
    have hT91 : y.1 = (L86 ++ y89.1) ++ w90.1 := by rw [hT, ew90]; simp only [List.append_assoc]
    have hf9 := wA_in hD hA9 hS
    refine va_callv (va_runV (As := [.int (0 : Int32)]) (rest := []) ⟨hx, hb, hml, hown, hts⟩ (kX0_flag l D ct ad87 Z (xt G L86) y84.2 _ a ((0 : Int32)) y89 hc hk hy89) (cwV 1 hts gX0_writeSequence_X0_flag rfl rfl rfl (by decide +kernel) ⟨Nat.le_of_ble_eq_true rfl, Nat.le_of_ble_eq_true rfl⟩) ⟨fun a U g mk q => by obtain ⟨q0, q1, qP, qK, qD, qZ, qN⟩ := q; exact ⟨q0, q1, qP, va_K.moved (u := U) (U := U.calling g mk a) (Vm.Alike.refl U.vm) qK, qD, sF.moved (u := U) (U := U.calling g mk a) (Vm.Alike.refl U.vm) qZ, nF.same rfl qN⟩, va_recv hK hP (ci := 0) (q0 := a) rfl (wld_o ct ad87 (xt G L86) y84.2 hc hk (by decide)), fun U hU hW => ⟨rfl, by rw [hU], by rw [hU]; exact hP, va_K.moved hW.alike hK, hD.weaken (fun _ _ _ _ => trivial), by rw [hU]; exact ((hZ.kept hS.2.1).narrow hf9).moved hW.alike, hN.warm hW⟩⟩ rfl rfl hl.1 rfl (lv_room (Nat.le_of_ble_eq_true rfl)) dX0_writeSequence_217 (room_s hT91 hbl)) hS (fun q _ h => hf9 q h) hf9 (fun ad92 t H locs ht hvm hw hB hz1 hk1 hS => ?_)
    have hn93 := hw
    obtain ⟨hP, hK9, hD9⟩ := hB
    rw [ht] at hP
    have hD := hD9.weaken (fun _ q _ h => hf9 q.1 h)
    rw [xt_xt, ← eL91] at hP hD
    refine W_cs (k := L91.length) (n := wt L91) (by rw [eL91]; exact (len_s L86 y89.1).symm) (by rw [eL91]; exact (wt_app L86 y89.1).symm) ?_
    have hT : y.1 = L91 ++ w90.1 := by rw [hT91, eL91]
    have h2 : y.2 = w90.2 := by rw [h2, ew90]
    have hl := lv_sub (l' := [(0, .ref (ad87 a))]) hl [0] rfl
    have e9 : ([(0, .ref (ad87 a))] : List (Nat × Value)) = [(0, .ref (ad92 a))] := (by first | rfl | simp only [hn93 a hc])
    rw [e9] at hl
    clear e9
    have hk : (xt G L91).2.1 a = 0 := by rw [eL91]; exact xt_k _ hc hk
    have hc : a < (xt G L91).1 := by rw [eL91]; exact xt_l _ hc
    have hk2 : (xt G L91).2.1 b2 = 10 := by rw [eL91]; exact xt_k _ hc2 hk2
    have hc2 : b2 < (xt G L91).1 := by rw [eL91]; exact xt_l _ hc2
    have hk4 : (xt G L91).2.1 b4 = 10 := by rw [eL91]; exact xt_k _ hc4 hk4
    have hc4 : b4 < (xt G L91).1 := by rw [eL91]; exact xt_l _ hc4
    have hk10 : (xt G L91).2.1 b10 = 10 := by rw [eL91]; exact xt_k _ hc10 hk10
    have hc10 : b10 < (xt G L91).1 := by rw [eL91]; exact xt_l _ hc10
    have hk16 : (xt G L91).2.1 b16 = 10 := by rw [eL91]; exact xt_k _ hc16 hk16
    have hc16 : b16 < (xt G L91).1 := by rw [eL91]; exact xt_l _ hc16
    have hk22 : (xt G L91).2.1 b22 = 10 := by rw [eL91]; exact xt_k _ hc22 hk22
    have hc22 : b22 < (xt G L91).1 := by rw [eL91]; exact xt_l _ hc22
    have hk28 : (xt G L91).2.1 b28 = 10 := by rw [eL91]; exact xt_k _ hc28 hk28
    have hc28 : b28 < (xt G L91).1 := by rw [eL91]; exact xt_l _ hc28
    have hk34 : (xt G L91).2.1 b34 = 13 := by rw [eL91]; exact xt_k _ hc34 hk34
    have hc34 : b34 < (xt G L91).1 := by rw [eL91]; exact xt_l _ hc34
    have hk36 : (xt G L91).2.1 b36 = 10 := by rw [eL91]; exact xt_k _ hc36 hk36
    have hc36 : b36 < (xt G L91).1 := by rw [eL91]; exact xt_l _ hc36
    have hk42 : (xt G L91).2.1 b42 = 13 := by rw [eL91]; exact xt_k _ hc42 hk42
    have hc42 : b42 < (xt G L91).1 := by rw [eL91]; exact xt_l _ hc42
    have hk48 : (xt G L91).2.1 b48 = 13 := by rw [eL91]; exact xt_k _ hc48 hk48
    have hc48 : b48 < (xt G L91).1 := by rw [eL91]; exact xt_l _ hc48
    have hk50 : (xt G L91).2.1 b50 = 10 := by rw [eL91]; exact xt_k _ hc50 hk50
    have hc50 : b50 < (xt G L91).1 := by rw [eL91]; exact xt_l _ hc50
    have hk61 : (xt G L91).2.1 b61 = 13 := by rw [eL91]; exact xt_k _ hc61 hk61
    have hc61 : b61 < (xt G L91).1 := by rw [eL91]; exact xt_l _ hc61
    have hk64 : (xt G L91).2.1 b64 = 10 := by rw [eL91]; exact xt_k _ hc64 hk64
    have hc64 : b64 < (xt G L91).1 := by rw [eL91]; exact xt_l _ hc64
    have hk70 : (xt G L91).2.1 b70 = 13 := by rw [eL91]; exact xt_k _ hc70 hk70
    have hc70 : b70 < (xt G L91).1 := by rw [eL91]; exact xt_l _ hc70
    have hk73 : (xt G L91).2.1 b73 = 10 := by rw [eL91]; exact xt_k _ hc73 hk73
    have hc73 : b73 < (xt G L91).1 := by rw [eL91]; exact xt_l _ hc73
    have hag := agr_t (xt_ge _ _) hag hn93
    refine lv_aload_n hx hb dX0_writeSequence_220 rfl (lv_at hl 0 rfl) ?_
    refine lv_iconst (v := (0 : Int32)) hx hb dX0_writeSequence_221 (by decide) ?_
    obtain ⟨y94, hy94, hF⟩ := bnd_some hF
    obtain ⟨w95, hF, ew95⟩ := app_some hF
    obtain ⟨L96, eL96, hF⟩ := ltt_some hF
    have hT96 : y.1 = (L91 ++ y94.1) ++ w95.1 := by rw [hT, ew95]; simp only [List.append_assoc]
    have hf9 := wA_in hD hA9 hS
    refine va_callv (va_runV (As := [.int (0 : Int32)]) (rest := []) ⟨hx, hb, hml, hown, hts⟩ (kX0_flag l D ct ad92 Z (xt G L91) y89.2 _ a ((0 : Int32)) y94 hc hk hy94) (cwV 1 hts gX0_writeSequence_X0_flag rfl rfl rfl (by decide +kernel) ⟨Nat.le_of_ble_eq_true rfl, Nat.le_of_ble_eq_true rfl⟩) ⟨fun a U g mk q => by obtain ⟨q0, q1, qP, qK, qD, qZ, qN⟩ := q; exact ⟨q0, q1, qP, va_K.moved (u := U) (U := U.calling g mk a) (Vm.Alike.refl U.vm) qK, qD, sF.moved (u := U) (U := U.calling g mk a) (Vm.Alike.refl U.vm) qZ, nF.same rfl qN⟩, va_recv hK hP (ci := 0) (q0 := a) rfl (wld_o ct ad92 (xt G L91) y89.2 hc hk (by decide)), fun U hU hW => ⟨rfl, by rw [hU], by rw [hU]; exact hP, va_K.moved hW.alike hK, hD.weaken (fun _ _ _ _ => trivial), by rw [hU]; exact ((hZ.kept hS.2.1).narrow hf9).moved hW.alike, hN.warm hW⟩⟩ rfl rfl hl.1 rfl (lv_room (Nat.le_of_ble_eq_true rfl)) dX0_writeSequence_222 (room_s hT96 hbl)) hS (fun q _ h => hf9 q h) hf9 (fun ad97 t H locs ht hvm hw hB hz1 hk1 hS => ?_)
    have hn98 := hw
    obtain ⟨hP, hK9, hD9⟩ := hB
    rw [ht] at hP
    have hD := hD9.weaken (fun _ q _ h => hf9 q.1 h)
    rw [xt_xt, ← eL96] at hP hD
    refine W_cs (k := L96.length) (n := wt L96) (by rw [eL96]; exact (len_s L91 y94.1).symm) (by rw [eL96]; exact (wt_app L91 y94.1).symm) ?_
    have hT : y.1 = L96 ++ w95.1 := by rw [hT96, eL96]
    have h2 : y.2 = w95.2 := by rw [h2, ew95]
    have hl := lv_sub (l' := [(0, .ref (ad92 a))]) hl [0] rfl
    have e9 : ([(0, .ref (ad92 a))] : List (Nat × Value)) = [(0, .ref (ad97 a))] := (by first | rfl | simp only [hn98 a hc])
    rw [e9] at hl
    clear e9
    have hk : (xt G L96).2.1 a = 0 := by rw [eL96]; exact xt_k _ hc hk
    have hc : a < (xt G L96).1 := by rw [eL96]; exact xt_l _ hc
    have hk2 : (xt G L96).2.1 b2 = 10 := by rw [eL96]; exact xt_k _ hc2 hk2
    have hc2 : b2 < (xt G L96).1 := by rw [eL96]; exact xt_l _ hc2
    have hk4 : (xt G L96).2.1 b4 = 10 := by rw [eL96]; exact xt_k _ hc4 hk4
    have hc4 : b4 < (xt G L96).1 := by rw [eL96]; exact xt_l _ hc4
    have hk10 : (xt G L96).2.1 b10 = 10 := by rw [eL96]; exact xt_k _ hc10 hk10
    have hc10 : b10 < (xt G L96).1 := by rw [eL96]; exact xt_l _ hc10
    have hk16 : (xt G L96).2.1 b16 = 10 := by rw [eL96]; exact xt_k _ hc16 hk16
    have hc16 : b16 < (xt G L96).1 := by rw [eL96]; exact xt_l _ hc16
    have hk22 : (xt G L96).2.1 b22 = 10 := by rw [eL96]; exact xt_k _ hc22 hk22
    have hc22 : b22 < (xt G L96).1 := by rw [eL96]; exact xt_l _ hc22
    have hk28 : (xt G L96).2.1 b28 = 10 := by rw [eL96]; exact xt_k _ hc28 hk28
    have hc28 : b28 < (xt G L96).1 := by rw [eL96]; exact xt_l _ hc28
    have hk34 : (xt G L96).2.1 b34 = 13 := by rw [eL96]; exact xt_k _ hc34 hk34
    have hc34 : b34 < (xt G L96).1 := by rw [eL96]; exact xt_l _ hc34
    have hk36 : (xt G L96).2.1 b36 = 10 := by rw [eL96]; exact xt_k _ hc36 hk36
    have hc36 : b36 < (xt G L96).1 := by rw [eL96]; exact xt_l _ hc36
    have hk42 : (xt G L96).2.1 b42 = 13 := by rw [eL96]; exact xt_k _ hc42 hk42
    have hc42 : b42 < (xt G L96).1 := by rw [eL96]; exact xt_l _ hc42
    have hk48 : (xt G L96).2.1 b48 = 13 := by rw [eL96]; exact xt_k _ hc48 hk48
    have hc48 : b48 < (xt G L96).1 := by rw [eL96]; exact xt_l _ hc48
    have hk50 : (xt G L96).2.1 b50 = 10 := by rw [eL96]; exact xt_k _ hc50 hk50
    have hc50 : b50 < (xt G L96).1 := by rw [eL96]; exact xt_l _ hc50
    have hk61 : (xt G L96).2.1 b61 = 13 := by rw [eL96]; exact xt_k _ hc61 hk61
    have hc61 : b61 < (xt G L96).1 := by rw [eL96]; exact xt_l _ hc61
    have hk64 : (xt G L96).2.1 b64 = 10 := by rw [eL96]; exact xt_k _ hc64 hk64
    have hc64 : b64 < (xt G L96).1 := by rw [eL96]; exact xt_l _ hc64
    have hk70 : (xt G L96).2.1 b70 = 13 := by rw [eL96]; exact xt_k _ hc70 hk70
    have hc70 : b70 < (xt G L96).1 := by rw [eL96]; exact xt_l _ hc70
    have hk73 : (xt G L96).2.1 b73 = 10 := by rw [eL96]; exact xt_k _ hc73 hk73
    have hc73 : b73 < (xt G L96).1 := by rw [eL96]; exact xt_l _ hc73
    have hag := agr_t (xt_ge _ _) hag hn98
    refine lv_aload_n hx hb dX0_writeSequence_225 rfl (lv_at hl 0 rfl) ?_
    refine va_get (D := D) (ci := 0) (v := va_re ad97 (y94.2.2 a 2)) (C := RX0) (T := TX0) (N := 21) hx hb hts (mus hf_X0) hown hK hP a (wld_o ct ad97 (xt G L96) y94.2 hc hk (by decide)) rfl 2 (by decide) (hts (.fieldLink RX0 29 "VideoSuite$Coder" "writer" "LVideoSuite$Writer;") (mu mw_815)) (fun _ h9 => h9) rfl dX0_writeSequence_226 ?_
    refine lv_iconst (v := (0 : Int32)) hx hb dX0_writeSequence_229 (by decide) ?_
    obtain ⟨b99, ho99, hc99, hk99, hF⟩ := dr_some hF
    refine W_st (st' := [.int (0 : Int32), .ref (ad97 b99)]) (by rw [va_some ho99]) ?_
    obtain ⟨y100, hy100, hF⟩ := bnd_some hF
    obtain ⟨w101, hF, ew101⟩ := app_some hF
    obtain ⟨L102, eL102, hF⟩ := ltt_some hF
    have hT102 : y.1 = (L96 ++ y100.1) ++ w101.1 := by rw [hT, ew101]; simp only [List.append_assoc]
    have hf9 := wA_in hD hA9 hS
    refine va_callv (va_runV (As := [.int (0 : Int32)]) (rest := []) ⟨hx, hb, hml, hown, hts⟩ (kX10_endUnit l D ct ad97 Z (xt G L96) y94.2 _ b99 ((0 : Int32)) y100 hc99 hk99 hy100) (cwV 1 hts gX0_writeSequence_X10_endUnit rfl rfl rfl (by decide +kernel) ⟨Nat.le_of_ble_eq_true rfl, Nat.le_of_ble_eq_true rfl⟩) ⟨fun a U g mk q => by obtain ⟨q0, q1, qP, qK, qD, qZ, qN⟩ := q; exact ⟨q0, q1, qP, va_K.moved (u := U) (U := U.calling g mk a) (Vm.Alike.refl U.vm) qK, qD, sF.moved (u := U) (U := U.calling g mk a) (Vm.Alike.refl U.vm) qZ, nF.same rfl qN⟩, va_recv hK hP (ci := 10) (q0 := b99) rfl (wld_o ct ad97 (xt G L96) y94.2 hc99 hk99 (by decide)), fun U hU hW => ⟨rfl, by rw [hU], by rw [hU]; exact hP, va_K.moved hW.alike hK, hD.weaken (fun _ _ _ _ => trivial), by rw [hU]; exact ((hZ.kept hS.2.1).narrow hf9).moved hW.alike, hN.warm hW⟩⟩ rfl rfl hl.1 rfl (lv_room (Nat.le_of_ble_eq_true rfl)) dX0_writeSequence_230 (room_s hT102 hbl)) hS (fun q _ h => hf9 q h) hf9 (fun ad103 t H locs ht hvm hw hB hz1 hk1 hS => ?_)
    have hn104 := hw
    obtain ⟨hP, hK9, hD9⟩ := hB
    rw [ht] at hP
    have hD := hD9.weaken (fun _ q _ h => hf9 q.1 h)
    rw [xt_xt, ← eL102] at hP hD
    refine W_cs (k := L102.length) (n := wt L102) (by rw [eL102]; exact (len_s L96 y100.1).symm) (by rw [eL102]; exact (wt_app L96 y100.1).symm) ?_
    have hT : y.1 = L102 ++ w101.1 := by rw [hT102, eL102]
    have h2 : y.2 = w101.2 := by rw [h2, ew101]
    have hl := lv_sub (l' := []) hl [] rfl
    have hk : (xt G L102).2.1 a = 0 := by rw [eL102]; exact xt_k _ hc hk
    have hc : a < (xt G L102).1 := by rw [eL102]; exact xt_l _ hc
    have hk2 : (xt G L102).2.1 b2 = 10 := by rw [eL102]; exact xt_k _ hc2 hk2
    have hc2 : b2 < (xt G L102).1 := by rw [eL102]; exact xt_l _ hc2
    have hk4 : (xt G L102).2.1 b4 = 10 := by rw [eL102]; exact xt_k _ hc4 hk4
    have hc4 : b4 < (xt G L102).1 := by rw [eL102]; exact xt_l _ hc4
    have hk10 : (xt G L102).2.1 b10 = 10 := by rw [eL102]; exact xt_k _ hc10 hk10
    have hc10 : b10 < (xt G L102).1 := by rw [eL102]; exact xt_l _ hc10
    have hk16 : (xt G L102).2.1 b16 = 10 := by rw [eL102]; exact xt_k _ hc16 hk16
    have hc16 : b16 < (xt G L102).1 := by rw [eL102]; exact xt_l _ hc16
    have hk22 : (xt G L102).2.1 b22 = 10 := by rw [eL102]; exact xt_k _ hc22 hk22
    have hc22 : b22 < (xt G L102).1 := by rw [eL102]; exact xt_l _ hc22
    have hk28 : (xt G L102).2.1 b28 = 10 := by rw [eL102]; exact xt_k _ hc28 hk28
    have hc28 : b28 < (xt G L102).1 := by rw [eL102]; exact xt_l _ hc28
    have hk34 : (xt G L102).2.1 b34 = 13 := by rw [eL102]; exact xt_k _ hc34 hk34
    have hc34 : b34 < (xt G L102).1 := by rw [eL102]; exact xt_l _ hc34
    have hk36 : (xt G L102).2.1 b36 = 10 := by rw [eL102]; exact xt_k _ hc36 hk36
    have hc36 : b36 < (xt G L102).1 := by rw [eL102]; exact xt_l _ hc36
    have hk42 : (xt G L102).2.1 b42 = 13 := by rw [eL102]; exact xt_k _ hc42 hk42
    have hc42 : b42 < (xt G L102).1 := by rw [eL102]; exact xt_l _ hc42
    have hk48 : (xt G L102).2.1 b48 = 13 := by rw [eL102]; exact xt_k _ hc48 hk48
    have hc48 : b48 < (xt G L102).1 := by rw [eL102]; exact xt_l _ hc48
    have hk50 : (xt G L102).2.1 b50 = 10 := by rw [eL102]; exact xt_k _ hc50 hk50
    have hc50 : b50 < (xt G L102).1 := by rw [eL102]; exact xt_l _ hc50
    have hk61 : (xt G L102).2.1 b61 = 13 := by rw [eL102]; exact xt_k _ hc61 hk61
    have hc61 : b61 < (xt G L102).1 := by rw [eL102]; exact xt_l _ hc61
    have hk64 : (xt G L102).2.1 b64 = 10 := by rw [eL102]; exact xt_k _ hc64 hk64
    have hc64 : b64 < (xt G L102).1 := by rw [eL102]; exact xt_l _ hc64
    have hk70 : (xt G L102).2.1 b70 = 13 := by rw [eL102]; exact xt_k _ hc70 hk70
    have hc70 : b70 < (xt G L102).1 := by rw [eL102]; exact xt_l _ hc70
    have hk73 : (xt G L102).2.1 b73 = 10 := by rw [eL102]; exact xt_k _ hc73 hk73
    have hc73 : b73 < (xt G L102).1 := by rw [eL102]; exact xt_l _ hc73
    have hk99 : (xt G L102).2.1 b99 = 10 := by rw [eL102]; exact xt_k _ hc99 hk99
    have hc99 : b99 < (xt G L102).1 := by rw [eL102]; exact xt_l _ hc99
    have hag := agr_t (xt_ge _ _) hag hn104
    obtain rfl := Option.some.inj hF
    have e1 : y.1 = L102 := by rw [hT]; exact List.append_nil _
    have e2 : y.2 = y100.2 := h2
    refine W.widen (k := y.1.length) (n := wt y.1) (Nat.le_of_eq (by rw [e1])) (Nat.le_of_eq (by rw [e1])) ?_
    exact W.vret hx hb hr (fun t ht hW => ⟨⟨ad103, rfl, hag, (by unfold kE; rw [e1, e2]; exact ⟨by rw [ht]; exact hP, va_K.moved hW.alike hK, hD⟩)⟩, hS.F ht⟩) hS.2.2 dX0_writeSequence_233
  clear hF
  obtain ⟨w105, hw105⟩ : ∃ z, z = y44 := ⟨_, rfl⟩
  have hF := hy44
  rw [← hw105] at hF
  clear hy44
  have hT : L46 = L39 ++ w105.1 := by rw [eL46, hw105]
  have h2 : y44.2 = w105.2 := by rw [hw105]
  have hbl := hbl46
  refine lv_if_ne (tgt := 101) hx hb dX0_writeSequence_86 (by decide) (fun c106 => ?_) (fun c106 => ?_)
  · rw [if_neg c106] at hF
    refine lv_aload_n hx hb dX0_writeSequence_101 rfl (lv_at hl 0 rfl) ?_
    refine va_get (D := D) (ci := 0) (v := va_re ad40 (y37.2.2 a 1)) (C := RX0) (T := TX0) (N := 21) hx hb hts (mus hf_X0) hown hK hP a (wld_o ct ad40 (xt G L39) y37.2 hc hk (by decide)) rfl 1 (by decide) (hts (.fieldLink RX0 23 "VideoSuite$Coder" "now" "[I") (mu mw_813)) (fun _ h9 => h9) rfl dX0_writeSequence_102 ?_
    refine lv_bipush (v := (18 : Int32)) hx hb dX0_writeSequence_105 (by decide) ?_
    refine W_st (st' := [.int (18 : Int32), .ref (ad40 b42)]) (by rw [va_some ho42]) ?_
    obtain ⟨hvc, hF⟩ := chk_some hF
    refine va_iald hx hb hK hP b42 1 (wld_i ct ad40 (xt G L39) y37.2 hc42 hk42) rfl hvc dX0_writeSequence_107 ?_
    obtain ⟨x107, ex107, hF⟩ := ltt_some hF
    refine lv_topi (fun zx107 ezx107 => ?_)
    obtain rfl : x107 = zx107 := ex107.trans ezx107.symm
    refine lv_iconst (v := (1 : Int32)) hx hb dX0_writeSequence_108 (by decide) ?_
    obtain ⟨y108, hy108, hF⟩ := bnd_some hF
    obtain ⟨w109, hF, ew109⟩ := app_some hF
    obtain ⟨L110, eL110, hF⟩ := ltt_some hF
    have hT110 : L46 = (L39 ++ y108.1) ++ w109.1 := by rw [hT, ew109]; simp only [List.append_assoc]
    have hbl110 : L110.length ≤ y.1.length ∧ wt L110 ≤ wt y.1 := by rw [eL110]; exact room_d hT110 hbl
    have J108 : ∀ (ad111 : Nat → Nat), agr G.1 ad ad111 → ∀ (H : Heap) (locs : List Loc) (ls : Array Slot), va_P D classes (wld ct ad111 (xt G L110) y108.2) H → va_D A (wld ct ad111 (xt G L110) y108.2) → va_S A s.heap H locs → lv_has ls 1 [(0, .ref (ad111 a))] → W p l e (headSpec wuX0_writeSequence ({ frames := 6, cells := y.1.length, slots := wt y.1, locals := 198 })).room s m ([.ref (ad a)] : List Value).toArray below meth c H locs (L110 : NN).length (wt L110) (MQ below (va_Qv (fun (u : Nat → Nat) => agr G.1 ad u) (fun u t => kE D ct u (xt G y.1) A y.2 t) A) ([.ref (ad a)] : List Value).toArray s y.1.length (wt y.1) A) (F0 m 153 ls []) := by
      intro ad111 hag H locs ls hP hD hS hl
      have hT : L46 = L110 ++ w109.1 := by rw [hT110, eL110]
      have h2 : y44.2 = w109.2 := by rw [h2, ew109]
      have hk : (xt G L110).2.1 a = 0 := by rw [eL110]; exact xt_k _ hc hk
      have hc : a < (xt G L110).1 := by rw [eL110]; exact xt_l _ hc
      have hk2 : (xt G L110).2.1 b2 = 10 := by rw [eL110]; exact xt_k _ hc2 hk2
      have hc2 : b2 < (xt G L110).1 := by rw [eL110]; exact xt_l _ hc2
      have hk4 : (xt G L110).2.1 b4 = 10 := by rw [eL110]; exact xt_k _ hc4 hk4
      have hc4 : b4 < (xt G L110).1 := by rw [eL110]; exact xt_l _ hc4
      have hk10 : (xt G L110).2.1 b10 = 10 := by rw [eL110]; exact xt_k _ hc10 hk10
      have hc10 : b10 < (xt G L110).1 := by rw [eL110]; exact xt_l _ hc10
      have hk16 : (xt G L110).2.1 b16 = 10 := by rw [eL110]; exact xt_k _ hc16 hk16
      have hc16 : b16 < (xt G L110).1 := by rw [eL110]; exact xt_l _ hc16
      have hk22 : (xt G L110).2.1 b22 = 10 := by rw [eL110]; exact xt_k _ hc22 hk22
      have hc22 : b22 < (xt G L110).1 := by rw [eL110]; exact xt_l _ hc22
      have hk28 : (xt G L110).2.1 b28 = 10 := by rw [eL110]; exact xt_k _ hc28 hk28
      have hc28 : b28 < (xt G L110).1 := by rw [eL110]; exact xt_l _ hc28
      have hk34 : (xt G L110).2.1 b34 = 13 := by rw [eL110]; exact xt_k _ hc34 hk34
      have hc34 : b34 < (xt G L110).1 := by rw [eL110]; exact xt_l _ hc34
      have hk36 : (xt G L110).2.1 b36 = 10 := by rw [eL110]; exact xt_k _ hc36 hk36
      have hc36 : b36 < (xt G L110).1 := by rw [eL110]; exact xt_l _ hc36
      have hk42 : (xt G L110).2.1 b42 = 13 := by rw [eL110]; exact xt_k _ hc42 hk42
      have hc42 : b42 < (xt G L110).1 := by rw [eL110]; exact xt_l _ hc42
      obtain rfl := Option.some.inj hF
      have e1 : L46 = L110 := by rw [hT]; exact List.append_nil _
      have e2 : y44.2 = y108.2 := h2
      rw [e1] at J44
      try rw [e2] at J44
      exact J44 _ hag _ _ _ hP hD hS (lv_sub hl [0] rfl)
    clear hF
    obtain ⟨w112, hw112⟩ : ∃ z, z = y108 := ⟨_, rfl⟩
    have hF := hy108
    rw [← hw112] at hF
    clear hy108
    have hT : L110 = L39 ++ w112.1 := by rw [eL110, hw112]
    have h2 : y108.2 = w112.2 := by rw [hw112]
    have hbl := hbl110
    refine lv_icmp_ne (tgt := 153) hx hb dX0_writeSequence_109 (by decide) (fun c113 => ?_) (fun c113 => ?_)
    · rw [if_neg c113] at hF
      obtain rfl := Option.some.inj hF
      have e1 : L110 = L39 := by rw [hT]; exact List.append_nil _
      have e2 : y108.2 = y37.2 := h2
      rw [e1] at J108
      try rw [e2] at J108
      exact J108 _ hag _ _ _ hP hD hS (lv_sub hl [0] rfl)
    · rw [if_pos c113] at hF
      refine lv_aload_n hx hb dX0_writeSequence_112 rfl (lv_at hl 0 rfl) ?_
      refine lv_iconst (v := (1 : Int32)) hx hb dX0_writeSequence_113 (by decide) ?_
      obtain ⟨y114, hy114, hF⟩ := bnd_some hF
      obtain ⟨w115, hF, ew115⟩ := app_some hF
      obtain ⟨L116, eL116, hF⟩ := ltt_some hF
      have hT116 : L110 = (L39 ++ y114.1) ++ w115.1 := by rw [hT, ew115]; simp only [List.append_assoc]
      have hf9 := wA_in hD hA9 hS
      refine va_callv (va_runV (As := [.int (1 : Int32)]) (rest := []) ⟨hx, hb, hml, hown, hts⟩ (kX0_flag l D ct ad40 Z (xt G L39) y37.2 _ a ((1 : Int32)) y114 hc hk hy114) (cwV 1 hts gX0_writeSequence_X0_flag rfl rfl rfl (by decide +kernel) ⟨Nat.le_of_ble_eq_true rfl, Nat.le_of_ble_eq_true rfl⟩) ⟨fun a U g mk q => by obtain ⟨q0, q1, qP, qK, qD, qZ, qN⟩ := q; exact ⟨q0, q1, qP, va_K.moved (u := U) (U := U.calling g mk a) (Vm.Alike.refl U.vm) qK, qD, sF.moved (u := U) (U := U.calling g mk a) (Vm.Alike.refl U.vm) qZ, nF.same rfl qN⟩, va_recv hK hP (ci := 0) (q0 := a) rfl (wld_o ct ad40 (xt G L39) y37.2 hc hk (by decide)), fun U hU hW => ⟨rfl, by rw [hU], by rw [hU]; exact hP, va_K.moved hW.alike hK, hD.weaken (fun _ _ _ _ => trivial), by rw [hU]; exact ((hZ.kept hS.2.1).narrow hf9).moved hW.alike, hN.warm hW⟩⟩ rfl rfl hl.1 rfl (lv_room (Nat.le_of_ble_eq_true rfl)) dX0_writeSequence_114 (room_s hT116 hbl)) hS (fun q _ h => hf9 q h) hf9 (fun ad117 t H locs ht hvm hw hB hz1 hk1 hS => ?_)
      have hn118 := hw
      obtain ⟨hP, hK9, hD9⟩ := hB
      rw [ht] at hP
      have hD := hD9.weaken (fun _ q _ h => hf9 q.1 h)
      rw [xt_xt, ← eL116] at hP hD
      refine W_cs (k := L116.length) (n := wt L116) (by rw [eL116]; exact (len_s L39 y114.1).symm) (by rw [eL116]; exact (wt_app L39 y114.1).symm) ?_
      have hT : L110 = L116 ++ w115.1 := by rw [hT116, eL116]
      have h2 : y108.2 = w115.2 := by rw [h2, ew115]
      have hl := lv_sub (l' := [(0, .ref (ad40 a))]) hl [0] rfl
      have e9 : ([(0, .ref (ad40 a))] : List (Nat × Value)) = [(0, .ref (ad117 a))] := (by first | rfl | simp only [hn118 a hc])
      rw [e9] at hl
      clear e9
      have hk : (xt G L116).2.1 a = 0 := by rw [eL116]; exact xt_k _ hc hk
      have hc : a < (xt G L116).1 := by rw [eL116]; exact xt_l _ hc
      have hk2 : (xt G L116).2.1 b2 = 10 := by rw [eL116]; exact xt_k _ hc2 hk2
      have hc2 : b2 < (xt G L116).1 := by rw [eL116]; exact xt_l _ hc2
      have hk4 : (xt G L116).2.1 b4 = 10 := by rw [eL116]; exact xt_k _ hc4 hk4
      have hc4 : b4 < (xt G L116).1 := by rw [eL116]; exact xt_l _ hc4
      have hk10 : (xt G L116).2.1 b10 = 10 := by rw [eL116]; exact xt_k _ hc10 hk10
      have hc10 : b10 < (xt G L116).1 := by rw [eL116]; exact xt_l _ hc10
      have hk16 : (xt G L116).2.1 b16 = 10 := by rw [eL116]; exact xt_k _ hc16 hk16
      have hc16 : b16 < (xt G L116).1 := by rw [eL116]; exact xt_l _ hc16
      have hk22 : (xt G L116).2.1 b22 = 10 := by rw [eL116]; exact xt_k _ hc22 hk22
      have hc22 : b22 < (xt G L116).1 := by rw [eL116]; exact xt_l _ hc22
      have hk28 : (xt G L116).2.1 b28 = 10 := by rw [eL116]; exact xt_k _ hc28 hk28
      have hc28 : b28 < (xt G L116).1 := by rw [eL116]; exact xt_l _ hc28
      have hk34 : (xt G L116).2.1 b34 = 13 := by rw [eL116]; exact xt_k _ hc34 hk34
      have hc34 : b34 < (xt G L116).1 := by rw [eL116]; exact xt_l _ hc34
      have hk36 : (xt G L116).2.1 b36 = 10 := by rw [eL116]; exact xt_k _ hc36 hk36
      have hc36 : b36 < (xt G L116).1 := by rw [eL116]; exact xt_l _ hc36
      have hk42 : (xt G L116).2.1 b42 = 13 := by rw [eL116]; exact xt_k _ hc42 hk42
      have hc42 : b42 < (xt G L116).1 := by rw [eL116]; exact xt_l _ hc42
      have hag := agr_t (xt_ge _ _) hag hn118
      refine lv_aload_n hx hb dX0_writeSequence_117 rfl (lv_at hl 0 rfl) ?_
      refine va_get (D := D) (ci := 0) (v := va_re ad117 (y114.2.2 a 2)) (C := RX0) (T := TX0) (N := 21) hx hb hts (mus hf_X0) hown hK hP a (wld_o ct ad117 (xt G L116) y114.2 hc hk (by decide)) rfl 2 (by decide) (hts (.fieldLink RX0 29 "VideoSuite$Coder" "writer" "LVideoSuite$Writer;") (mu mw_815)) (fun _ h9 => h9) rfl dX0_writeSequence_118 ?_
      refine lv_iconst (v := (0 : Int32)) hx hb dX0_writeSequence_121 (by decide) ?_
      refine lv_iconst (v := (0 : Int32)) hx hb dX0_writeSequence_122 (by decide) ?_
      obtain ⟨b119, ho119, hc119, hk119, hF⟩ := dr_some hF
      refine W_st (st' := [.int (0 : Int32), .int (0 : Int32), .ref (ad117 b119)]) (by rw [va_some ho119]) ?_
      obtain ⟨y120, hy120, hF⟩ := bnd_some hF
      obtain ⟨w121, hF, ew121⟩ := app_some hF
      obtain ⟨L122, eL122, hF⟩ := ltt_some hF
      have hT122 : L110 = (L116 ++ y120.1) ++ w121.1 := by rw [hT, ew121]; simp only [List.append_assoc]
      have hf9 := wA_in hD hA9 hS
      refine va_callv (va_runV (As := [.int (0 : Int32), .int (0 : Int32)]) (rest := []) ⟨hx, hb, hml, hown, hts⟩ (kX10_se l D ct ad117 Z (xt G L116) y114.2 _ b119 ((0 : Int32)) ((0 : Int32)) y120 hc119 hk119 hy120) (cwV 2 hts gX0_writeSequence_X10_se rfl rfl rfl (by decide +kernel) ⟨Nat.le_of_ble_eq_true rfl, Nat.le_of_ble_eq_true rfl⟩) ⟨fun a U g mk q => by obtain ⟨q0, q1, qP, qK, qD, qZ, qN⟩ := q; exact ⟨q0, q1, qP, va_K.moved (u := U) (U := U.calling g mk a) (Vm.Alike.refl U.vm) qK, qD, sF.moved (u := U) (U := U.calling g mk a) (Vm.Alike.refl U.vm) qZ, nF.same rfl qN⟩, va_recv hK hP (ci := 10) (q0 := b119) rfl (wld_o ct ad117 (xt G L116) y114.2 hc119 hk119 (by decide)), fun U hU hW => ⟨rfl, by rw [hU], by rw [hU]; exact hP, va_K.moved hW.alike hK, hD.weaken (fun _ _ _ _ => trivial), by rw [hU]; exact ((hZ.kept hS.2.1).narrow hf9).moved hW.alike, hN.warm hW⟩⟩ rfl rfl hl.1 rfl (lv_room (Nat.le_of_ble_eq_true rfl)) dX0_writeSequence_123 (room_s hT122 hbl)) hS (fun q _ h => hf9 q h) hf9 (fun ad123 t H locs ht hvm hw hB hz1 hk1 hS => ?_)
      have hn124 := hw
      obtain ⟨hP, hK9, hD9⟩ := hB
      rw [ht] at hP
      have hD := hD9.weaken (fun _ q _ h => hf9 q.1 h)
      rw [xt_xt, ← eL122] at hP hD
      refine W_cs (k := L122.length) (n := wt L122) (by rw [eL122]; exact (len_s L116 y120.1).symm) (by rw [eL122]; exact (wt_app L116 y120.1).symm) ?_
      have hT : L110 = L122 ++ w121.1 := by rw [hT122, eL122]
      have h2 : y108.2 = w121.2 := by rw [h2, ew121]
      have hl := lv_sub (l' := [(0, .ref (ad117 a))]) hl [0] rfl
      have e9 : ([(0, .ref (ad117 a))] : List (Nat × Value)) = [(0, .ref (ad123 a))] := (by first | rfl | simp only [hn124 a hc])
      rw [e9] at hl
      clear e9
      have hk : (xt G L122).2.1 a = 0 := by rw [eL122]; exact xt_k _ hc hk
      have hc : a < (xt G L122).1 := by rw [eL122]; exact xt_l _ hc
      have hk2 : (xt G L122).2.1 b2 = 10 := by rw [eL122]; exact xt_k _ hc2 hk2
      have hc2 : b2 < (xt G L122).1 := by rw [eL122]; exact xt_l _ hc2
      have hk4 : (xt G L122).2.1 b4 = 10 := by rw [eL122]; exact xt_k _ hc4 hk4
      have hc4 : b4 < (xt G L122).1 := by rw [eL122]; exact xt_l _ hc4
      have hk10 : (xt G L122).2.1 b10 = 10 := by rw [eL122]; exact xt_k _ hc10 hk10
      have hc10 : b10 < (xt G L122).1 := by rw [eL122]; exact xt_l _ hc10
      have hk16 : (xt G L122).2.1 b16 = 10 := by rw [eL122]; exact xt_k _ hc16 hk16
      have hc16 : b16 < (xt G L122).1 := by rw [eL122]; exact xt_l _ hc16
      have hk22 : (xt G L122).2.1 b22 = 10 := by rw [eL122]; exact xt_k _ hc22 hk22
      have hc22 : b22 < (xt G L122).1 := by rw [eL122]; exact xt_l _ hc22
      have hk28 : (xt G L122).2.1 b28 = 10 := by rw [eL122]; exact xt_k _ hc28 hk28
      have hc28 : b28 < (xt G L122).1 := by rw [eL122]; exact xt_l _ hc28
      have hk34 : (xt G L122).2.1 b34 = 13 := by rw [eL122]; exact xt_k _ hc34 hk34
      have hc34 : b34 < (xt G L122).1 := by rw [eL122]; exact xt_l _ hc34
      have hk36 : (xt G L122).2.1 b36 = 10 := by rw [eL122]; exact xt_k _ hc36 hk36
      have hc36 : b36 < (xt G L122).1 := by rw [eL122]; exact xt_l _ hc36
      have hk42 : (xt G L122).2.1 b42 = 13 := by rw [eL122]; exact xt_k _ hc42 hk42
      have hc42 : b42 < (xt G L122).1 := by rw [eL122]; exact xt_l _ hc42
      have hk119 : (xt G L122).2.1 b119 = 10 := by rw [eL122]; exact xt_k _ hc119 hk119
      have hc119 : b119 < (xt G L122).1 := by rw [eL122]; exact xt_l _ hc119
      have hag := agr_t (xt_ge _ _) hag hn124
      refine lv_aload_n hx hb dX0_writeSequence_126 rfl (lv_at hl 0 rfl) ?_
      refine va_get (D := D) (ci := 0) (v := va_re ad123 (y120.2.2 a 2)) (C := RX0) (T := TX0) (N := 21) hx hb hts (mus hf_X0) hown hK hP a (wld_o ct ad123 (xt G L122) y120.2 hc hk (by decide)) rfl 2 (by decide) (hts (.fieldLink RX0 29 "VideoSuite$Coder" "writer" "LVideoSuite$Writer;") (mu mw_815)) (fun _ h9 => h9) rfl dX0_writeSequence_127 ?_
      refine lv_iconst (v := (0 : Int32)) hx hb dX0_writeSequence_130 (by decide) ?_
      refine lv_iconst (v := (0 : Int32)) hx hb dX0_writeSequence_131 (by decide) ?_
      obtain ⟨b125, ho125, hc125, hk125, hF⟩ := dr_some hF
      refine W_st (st' := [.int (0 : Int32), .int (0 : Int32), .ref (ad123 b125)]) (by rw [va_some ho125]) ?_
      obtain ⟨y126, hy126, hF⟩ := bnd_some hF
      obtain ⟨w127, hF, ew127⟩ := app_some hF
      obtain ⟨L128, eL128, hF⟩ := ltt_some hF
      have hT128 : L110 = (L122 ++ y126.1) ++ w127.1 := by rw [hT, ew127]; simp only [List.append_assoc]
      have hf9 := wA_in hD hA9 hS
      refine va_callv (va_runV (As := [.int (0 : Int32), .int (0 : Int32)]) (rest := []) ⟨hx, hb, hml, hown, hts⟩ (kX10_se l D ct ad123 Z (xt G L122) y120.2 _ b125 ((0 : Int32)) ((0 : Int32)) y126 hc125 hk125 hy126) (cwV 2 hts gX0_writeSequence_X10_se rfl rfl rfl (by decide +kernel) ⟨Nat.le_of_ble_eq_true rfl, Nat.le_of_ble_eq_true rfl⟩) ⟨fun a U g mk q => by obtain ⟨q0, q1, qP, qK, qD, qZ, qN⟩ := q; exact ⟨q0, q1, qP, va_K.moved (u := U) (U := U.calling g mk a) (Vm.Alike.refl U.vm) qK, qD, sF.moved (u := U) (U := U.calling g mk a) (Vm.Alike.refl U.vm) qZ, nF.same rfl qN⟩, va_recv hK hP (ci := 10) (q0 := b125) rfl (wld_o ct ad123 (xt G L122) y120.2 hc125 hk125 (by decide)), fun U hU hW => ⟨rfl, by rw [hU], by rw [hU]; exact hP, va_K.moved hW.alike hK, hD.weaken (fun _ _ _ _ => trivial), by rw [hU]; exact ((hZ.kept hS.2.1).narrow hf9).moved hW.alike, hN.warm hW⟩⟩ rfl rfl hl.1 rfl (lv_room (Nat.le_of_ble_eq_true rfl)) dX0_writeSequence_132 (room_s hT128 hbl)) hS (fun q _ h => hf9 q h) hf9 (fun ad129 t H locs ht hvm hw hB hz1 hk1 hS => ?_)
      have hn130 := hw
      obtain ⟨hP, hK9, hD9⟩ := hB
      rw [ht] at hP
      have hD := hD9.weaken (fun _ q _ h => hf9 q.1 h)
      rw [xt_xt, ← eL128] at hP hD
      refine W_cs (k := L128.length) (n := wt L128) (by rw [eL128]; exact (len_s L122 y126.1).symm) (by rw [eL128]; exact (wt_app L122 y126.1).symm) ?_
      have hT : L110 = L128 ++ w127.1 := by rw [hT128, eL128]
      have h2 : y108.2 = w127.2 := by rw [h2, ew127]
      have hl := lv_sub (l' := [(0, .ref (ad123 a))]) hl [0] rfl
      have e9 : ([(0, .ref (ad123 a))] : List (Nat × Value)) = [(0, .ref (ad129 a))] := (by first | rfl | simp only [hn130 a hc])
      rw [e9] at hl
      clear e9
      have hk : (xt G L128).2.1 a = 0 := by rw [eL128]; exact xt_k _ hc hk
      have hc : a < (xt G L128).1 := by rw [eL128]; exact xt_l _ hc
      have hk2 : (xt G L128).2.1 b2 = 10 := by rw [eL128]; exact xt_k _ hc2 hk2
      have hc2 : b2 < (xt G L128).1 := by rw [eL128]; exact xt_l _ hc2
      have hk4 : (xt G L128).2.1 b4 = 10 := by rw [eL128]; exact xt_k _ hc4 hk4
      have hc4 : b4 < (xt G L128).1 := by rw [eL128]; exact xt_l _ hc4
      have hk10 : (xt G L128).2.1 b10 = 10 := by rw [eL128]; exact xt_k _ hc10 hk10
      have hc10 : b10 < (xt G L128).1 := by rw [eL128]; exact xt_l _ hc10
      have hk16 : (xt G L128).2.1 b16 = 10 := by rw [eL128]; exact xt_k _ hc16 hk16
      have hc16 : b16 < (xt G L128).1 := by rw [eL128]; exact xt_l _ hc16
      have hk22 : (xt G L128).2.1 b22 = 10 := by rw [eL128]; exact xt_k _ hc22 hk22
      have hc22 : b22 < (xt G L128).1 := by rw [eL128]; exact xt_l _ hc22
      have hk28 : (xt G L128).2.1 b28 = 10 := by rw [eL128]; exact xt_k _ hc28 hk28
      have hc28 : b28 < (xt G L128).1 := by rw [eL128]; exact xt_l _ hc28
      have hk34 : (xt G L128).2.1 b34 = 13 := by rw [eL128]; exact xt_k _ hc34 hk34
      have hc34 : b34 < (xt G L128).1 := by rw [eL128]; exact xt_l _ hc34
      have hk36 : (xt G L128).2.1 b36 = 10 := by rw [eL128]; exact xt_k _ hc36 hk36
      have hc36 : b36 < (xt G L128).1 := by rw [eL128]; exact xt_l _ hc36
      have hk42 : (xt G L128).2.1 b42 = 13 := by rw [eL128]; exact xt_k _ hc42 hk42
      have hc42 : b42 < (xt G L128).1 := by rw [eL128]; exact xt_l _ hc42
      have hk119 : (xt G L128).2.1 b119 = 10 := by rw [eL128]; exact xt_k _ hc119 hk119
      have hc119 : b119 < (xt G L128).1 := by rw [eL128]; exact xt_l _ hc119
      have hk125 : (xt G L128).2.1 b125 = 10 := by rw [eL128]; exact xt_k _ hc125 hk125
      have hc125 : b125 < (xt G L128).1 := by rw [eL128]; exact xt_l _ hc125
      have hag := agr_t (xt_ge _ _) hag hn130
      refine lv_aload_n hx hb dX0_writeSequence_135 rfl (lv_at hl 0 rfl) ?_
      refine va_get (D := D) (ci := 0) (v := va_re ad129 (y126.2.2 a 2)) (C := RX0) (T := TX0) (N := 21) hx hb hts (mus hf_X0) hown hK hP a (wld_o ct ad129 (xt G L128) y126.2 hc hk (by decide)) rfl 2 (by decide) (hts (.fieldLink RX0 29 "VideoSuite$Coder" "writer" "LVideoSuite$Writer;") (mu mw_815)) (fun _ h9 => h9) rfl dX0_writeSequence_136 ?_
      refine lv_iconst (v := (0 : Int32)) hx hb dX0_writeSequence_139 (by decide) ?_
      refine lv_iconst (v := (1 : Int32)) hx hb dX0_writeSequence_140 (by decide) ?_
      obtain ⟨b131, ho131, hc131, hk131, hF⟩ := dr_some hF
      refine W_st (st' := [.int (1 : Int32), .int (0 : Int32), .ref (ad129 b131)]) (by rw [va_some ho131]) ?_
      obtain ⟨y132, hy132, hF⟩ := bnd_some hF
      obtain ⟨w133, hF, ew133⟩ := app_some hF
      obtain ⟨L134, eL134, hF⟩ := ltt_some hF
      have hT134 : L110 = (L128 ++ y132.1) ++ w133.1 := by rw [hT, ew133]; simp only [List.append_assoc]
      have hf9 := wA_in hD hA9 hS
      refine va_callv (va_runV (As := [.int (0 : Int32), .int (1 : Int32)]) (rest := []) ⟨hx, hb, hml, hown, hts⟩ (kX10_ue l D ct ad129 Z (xt G L128) y126.2 _ b131 ((0 : Int32)) ((1 : Int32)) y132 hc131 hk131 hy132) (cwV 2 hts gX0_writeSequence_X10_ue rfl rfl rfl (by decide +kernel) ⟨Nat.le_of_ble_eq_true rfl, Nat.le_of_ble_eq_true rfl⟩) ⟨fun a U g mk q => by obtain ⟨q0, q1, qP, qK, qD, qZ, qN⟩ := q; exact ⟨q0, q1, qP, va_K.moved (u := U) (U := U.calling g mk a) (Vm.Alike.refl U.vm) qK, qD, sF.moved (u := U) (U := U.calling g mk a) (Vm.Alike.refl U.vm) qZ, nF.same rfl qN⟩, va_recv hK hP (ci := 10) (q0 := b131) rfl (wld_o ct ad129 (xt G L128) y126.2 hc131 hk131 (by decide)), fun U hU hW => ⟨rfl, by rw [hU], by rw [hU]; exact hP, va_K.moved hW.alike hK, hD.weaken (fun _ _ _ _ => trivial), by rw [hU]; exact ((hZ.kept hS.2.1).narrow hf9).moved hW.alike, hN.warm hW⟩⟩ rfl rfl hl.1 rfl (lv_room (Nat.le_of_ble_eq_true rfl)) dX0_writeSequence_141 (room_s hT134 hbl)) hS (fun q _ h => hf9 q h) hf9 (fun ad135 t H locs ht hvm hw hB hz1 hk1 hS => ?_)
      have hn136 := hw
      obtain ⟨hP, hK9, hD9⟩ := hB
      rw [ht] at hP
      have hD := hD9.weaken (fun _ q _ h => hf9 q.1 h)
      rw [xt_xt, ← eL134] at hP hD
      refine W_cs (k := L134.length) (n := wt L134) (by rw [eL134]; exact (len_s L128 y132.1).symm) (by rw [eL134]; exact (wt_app L128 y132.1).symm) ?_
      have hT : L110 = L134 ++ w133.1 := by rw [hT134, eL134]
      have h2 : y108.2 = w133.2 := by rw [h2, ew133]
      have hl := lv_sub (l' := [(0, .ref (ad129 a))]) hl [0] rfl
      have e9 : ([(0, .ref (ad129 a))] : List (Nat × Value)) = [(0, .ref (ad135 a))] := (by first | rfl | simp only [hn136 a hc])
      rw [e9] at hl
      clear e9
      have hk : (xt G L134).2.1 a = 0 := by rw [eL134]; exact xt_k _ hc hk
      have hc : a < (xt G L134).1 := by rw [eL134]; exact xt_l _ hc
      have hk2 : (xt G L134).2.1 b2 = 10 := by rw [eL134]; exact xt_k _ hc2 hk2
      have hc2 : b2 < (xt G L134).1 := by rw [eL134]; exact xt_l _ hc2
      have hk4 : (xt G L134).2.1 b4 = 10 := by rw [eL134]; exact xt_k _ hc4 hk4
      have hc4 : b4 < (xt G L134).1 := by rw [eL134]; exact xt_l _ hc4
      have hk10 : (xt G L134).2.1 b10 = 10 := by rw [eL134]; exact xt_k _ hc10 hk10
      have hc10 : b10 < (xt G L134).1 := by rw [eL134]; exact xt_l _ hc10
      have hk16 : (xt G L134).2.1 b16 = 10 := by rw [eL134]; exact xt_k _ hc16 hk16
      have hc16 : b16 < (xt G L134).1 := by rw [eL134]; exact xt_l _ hc16
      have hk22 : (xt G L134).2.1 b22 = 10 := by rw [eL134]; exact xt_k _ hc22 hk22
      have hc22 : b22 < (xt G L134).1 := by rw [eL134]; exact xt_l _ hc22
      have hk28 : (xt G L134).2.1 b28 = 10 := by rw [eL134]; exact xt_k _ hc28 hk28
      have hc28 : b28 < (xt G L134).1 := by rw [eL134]; exact xt_l _ hc28
      have hk34 : (xt G L134).2.1 b34 = 13 := by rw [eL134]; exact xt_k _ hc34 hk34
      have hc34 : b34 < (xt G L134).1 := by rw [eL134]; exact xt_l _ hc34
      have hk36 : (xt G L134).2.1 b36 = 10 := by rw [eL134]; exact xt_k _ hc36 hk36
      have hc36 : b36 < (xt G L134).1 := by rw [eL134]; exact xt_l _ hc36
      have hk42 : (xt G L134).2.1 b42 = 13 := by rw [eL134]; exact xt_k _ hc42 hk42
      have hc42 : b42 < (xt G L134).1 := by rw [eL134]; exact xt_l _ hc42
      have hk119 : (xt G L134).2.1 b119 = 10 := by rw [eL134]; exact xt_k _ hc119 hk119
      have hc119 : b119 < (xt G L134).1 := by rw [eL134]; exact xt_l _ hc119
      have hk125 : (xt G L134).2.1 b125 = 10 := by rw [eL134]; exact xt_k _ hc125 hk125
      have hc125 : b125 < (xt G L134).1 := by rw [eL134]; exact xt_l _ hc125
      have hk131 : (xt G L134).2.1 b131 = 10 := by rw [eL134]; exact xt_k _ hc131 hk131
      have hc131 : b131 < (xt G L134).1 := by rw [eL134]; exact xt_l _ hc131
      have hag := agr_t (xt_ge _ _) hag hn136
      refine lv_aload_n hx hb dX0_writeSequence_144 rfl (lv_at hl 0 rfl) ?_
      refine va_get (D := D) (ci := 0) (v := va_re ad135 (y132.2.2 a 2)) (C := RX0) (T := TX0) (N := 21) hx hb hts (mus hf_X0) hown hK hP a (wld_o ct ad135 (xt G L134) y132.2 hc hk (by decide)) rfl 2 (by decide) (hts (.fieldLink RX0 29 "VideoSuite$Coder" "writer" "LVideoSuite$Writer;") (mu mw_815)) (fun _ h9 => h9) rfl dX0_writeSequence_145 ?_
      refine lv_iconst (v := (0 : Int32)) hx hb dX0_writeSequence_148 (by decide) ?_
      refine lv_iconst (v := (2 : Int32)) hx hb dX0_writeSequence_149 (by decide) ?_
      obtain ⟨b137, ho137, hc137, hk137, hF⟩ := dr_some hF
      refine W_st (st' := [.int (2 : Int32), .int (0 : Int32), .ref (ad135 b137)]) (by rw [va_some ho137]) ?_
      obtain ⟨y138, hy138, hF⟩ := bnd_some hF
      obtain ⟨w139, hF, ew139⟩ := app_some hF
      obtain ⟨L140, eL140, hF⟩ := ltt_some hF
      have hT140 : L110 = (L134 ++ y138.1) ++ w139.1 := by rw [hT, ew139]; simp only [List.append_assoc]
      have hf9 := wA_in hD hA9 hS
      refine va_callv (va_runV (As := [.int (0 : Int32), .int (2 : Int32)]) (rest := []) ⟨hx, hb, hml, hown, hts⟩ (kX10_se l D ct ad135 Z (xt G L134) y132.2 _ b137 ((0 : Int32)) ((2 : Int32)) y138 hc137 hk137 hy138) (cwV 2 hts gX0_writeSequence_X10_se rfl rfl rfl (by decide +kernel) ⟨Nat.le_of_ble_eq_true rfl, Nat.le_of_ble_eq_true rfl⟩) ⟨fun a U g mk q => by obtain ⟨q0, q1, qP, qK, qD, qZ, qN⟩ := q; exact ⟨q0, q1, qP, va_K.moved (u := U) (U := U.calling g mk a) (Vm.Alike.refl U.vm) qK, qD, sF.moved (u := U) (U := U.calling g mk a) (Vm.Alike.refl U.vm) qZ, nF.same rfl qN⟩, va_recv hK hP (ci := 10) (q0 := b137) rfl (wld_o ct ad135 (xt G L134) y132.2 hc137 hk137 (by decide)), fun U hU hW => ⟨rfl, by rw [hU], by rw [hU]; exact hP, va_K.moved hW.alike hK, hD.weaken (fun _ _ _ _ => trivial), by rw [hU]; exact ((hZ.kept hS.2.1).narrow hf9).moved hW.alike, hN.warm hW⟩⟩ rfl rfl hl.1 rfl (lv_room (Nat.le_of_ble_eq_true rfl)) dX0_writeSequence_150 (room_s hT140 hbl)) hS (fun q _ h => hf9 q h) hf9 (fun ad141 t H locs ht hvm hw hB hz1 hk1 hS => ?_)
      have hn142 := hw
      obtain ⟨hP, hK9, hD9⟩ := hB
      rw [ht] at hP
      have hD := hD9.weaken (fun _ q _ h => hf9 q.1 h)
      rw [xt_xt, ← eL140] at hP hD
      refine W_cs (k := L140.length) (n := wt L140) (by rw [eL140]; exact (len_s L134 y138.1).symm) (by rw [eL140]; exact (wt_app L134 y138.1).symm) ?_
      have hT : L110 = L140 ++ w139.1 := by rw [hT140, eL140]
      have h2 : y108.2 = w139.2 := by rw [h2, ew139]
      have hl := lv_sub (l' := [(0, .ref (ad135 a))]) hl [0] rfl
      have e9 : ([(0, .ref (ad135 a))] : List (Nat × Value)) = [(0, .ref (ad141 a))] := (by first | rfl | simp only [hn142 a hc])
      rw [e9] at hl
      clear e9
      have hk : (xt G L140).2.1 a = 0 := by rw [eL140]; exact xt_k _ hc hk
      have hc : a < (xt G L140).1 := by rw [eL140]; exact xt_l _ hc
      have hk2 : (xt G L140).2.1 b2 = 10 := by rw [eL140]; exact xt_k _ hc2 hk2
      have hc2 : b2 < (xt G L140).1 := by rw [eL140]; exact xt_l _ hc2
      have hk4 : (xt G L140).2.1 b4 = 10 := by rw [eL140]; exact xt_k _ hc4 hk4
      have hc4 : b4 < (xt G L140).1 := by rw [eL140]; exact xt_l _ hc4
      have hk10 : (xt G L140).2.1 b10 = 10 := by rw [eL140]; exact xt_k _ hc10 hk10
      have hc10 : b10 < (xt G L140).1 := by rw [eL140]; exact xt_l _ hc10
      have hk16 : (xt G L140).2.1 b16 = 10 := by rw [eL140]; exact xt_k _ hc16 hk16
      have hc16 : b16 < (xt G L140).1 := by rw [eL140]; exact xt_l _ hc16
      have hk22 : (xt G L140).2.1 b22 = 10 := by rw [eL140]; exact xt_k _ hc22 hk22
      have hc22 : b22 < (xt G L140).1 := by rw [eL140]; exact xt_l _ hc22
      have hk28 : (xt G L140).2.1 b28 = 10 := by rw [eL140]; exact xt_k _ hc28 hk28
      have hc28 : b28 < (xt G L140).1 := by rw [eL140]; exact xt_l _ hc28
      have hk34 : (xt G L140).2.1 b34 = 13 := by rw [eL140]; exact xt_k _ hc34 hk34
      have hc34 : b34 < (xt G L140).1 := by rw [eL140]; exact xt_l _ hc34
      have hk36 : (xt G L140).2.1 b36 = 10 := by rw [eL140]; exact xt_k _ hc36 hk36
      have hc36 : b36 < (xt G L140).1 := by rw [eL140]; exact xt_l _ hc36
      have hk42 : (xt G L140).2.1 b42 = 13 := by rw [eL140]; exact xt_k _ hc42 hk42
      have hc42 : b42 < (xt G L140).1 := by rw [eL140]; exact xt_l _ hc42
      have hk119 : (xt G L140).2.1 b119 = 10 := by rw [eL140]; exact xt_k _ hc119 hk119
      have hc119 : b119 < (xt G L140).1 := by rw [eL140]; exact xt_l _ hc119
      have hk125 : (xt G L140).2.1 b125 = 10 := by rw [eL140]; exact xt_k _ hc125 hk125
      have hc125 : b125 < (xt G L140).1 := by rw [eL140]; exact xt_l _ hc125
      have hk131 : (xt G L140).2.1 b131 = 10 := by rw [eL140]; exact xt_k _ hc131 hk131
      have hc131 : b131 < (xt G L140).1 := by rw [eL140]; exact xt_l _ hc131
      have hk137 : (xt G L140).2.1 b137 = 10 := by rw [eL140]; exact xt_k _ hc137 hk137
      have hc137 : b137 < (xt G L140).1 := by rw [eL140]; exact xt_l _ hc137
      have hag := agr_t (xt_ge _ _) hag hn142
      obtain rfl := Option.some.inj hF
      have e1 : L110 = L140 := by rw [hT]; exact List.append_nil _
      have e2 : y108.2 = y138.2 := h2
      rw [e1] at J108
      try rw [e2] at J108
      exact J108 _ hag _ _ _ hP hD hS (lv_sub hl [0] rfl)
  · rw [if_pos c106] at hF
    refine lv_aload_n hx hb dX0_writeSequence_89 rfl (lv_at hl 0 rfl) ?_
    refine va_get (D := D) (ci := 0) (v := va_re ad40 (y37.2.2 a 2)) (C := RX0) (T := TX0) (N := 21) hx hb hts (mus hf_X0) hown hK hP a (wld_o ct ad40 (xt G L39) y37.2 hc hk (by decide)) rfl 2 (by decide) (hts (.fieldLink RX0 29 "VideoSuite$Coder" "writer" "LVideoSuite$Writer;") (mu mw_815)) (fun _ h9 => h9) rfl dX0_writeSequence_90 ?_
    refine lv_iconst (v := (0 : Int32)) hx hb dX0_writeSequence_93 (by decide) ?_
    refine lv_iconst (v := (4 : Int32)) hx hb dX0_writeSequence_94 (by decide) ?_
    obtain ⟨b143, ho143, hc143, hk143, hF⟩ := dr_some hF
    refine W_st (st' := [.int (4 : Int32), .int (0 : Int32), .ref (ad40 b143)]) (by rw [va_some ho143]) ?_
    obtain ⟨y144, hy144, hF⟩ := bnd_some hF
    obtain ⟨w145, hF, ew145⟩ := app_some hF
    obtain ⟨L146, eL146, hF⟩ := ltt_some hF
    have hT146 : L46 = (L39 ++ y144.1) ++ w145.1 := by rw [hT, ew145]; simp only [List.append_assoc]
    have hf9 := wA_in hD hA9 hS
    refine va_callv (va_runV (As := [.int (0 : Int32), .int (4 : Int32)]) (rest := []) ⟨hx, hb, hml, hown, hts⟩ (kX10_ue l D ct ad40 Z (xt G L39) y37.2 _ b143 ((0 : Int32)) ((4 : Int32)) y144 hc143 hk143 hy144) (cwV 2 hts gX0_writeSequence_X10_ue rfl rfl rfl (by decide +kernel) ⟨Nat.le_of_ble_eq_true rfl, Nat.le_of_ble_eq_true rfl⟩) ⟨fun a U g mk q => by obtain ⟨q0, q1, qP, qK, qD, qZ, qN⟩ := q; exact ⟨q0, q1, qP, va_K.moved (u := U) (U := U.calling g mk a) (Vm.Alike.refl U.vm) qK, qD, sF.moved (u := U) (U := U.calling g mk a) (Vm.Alike.refl U.vm) qZ, nF.same rfl qN⟩, va_recv hK hP (ci := 10) (q0 := b143) rfl (wld_o ct ad40 (xt G L39) y37.2 hc143 hk143 (by decide)), fun U hU hW => ⟨rfl, by rw [hU], by rw [hU]; exact hP, va_K.moved hW.alike hK, hD.weaken (fun _ _ _ _ => trivial), by rw [hU]; exact ((hZ.kept hS.2.1).narrow hf9).moved hW.alike, hN.warm hW⟩⟩ rfl rfl hl.1 rfl (lv_room (Nat.le_of_ble_eq_true rfl)) dX0_writeSequence_95 (room_s hT146 hbl)) hS (fun q _ h => hf9 q h) hf9 (fun ad147 t H locs ht hvm hw hB hz1 hk1 hS => ?_)
    have hn148 := hw
    obtain ⟨hP, hK9, hD9⟩ := hB
    rw [ht] at hP
    have hD := hD9.weaken (fun _ q _ h => hf9 q.1 h)
    rw [xt_xt, ← eL146] at hP hD
    refine W_cs (k := L146.length) (n := wt L146) (by rw [eL146]; exact (len_s L39 y144.1).symm) (by rw [eL146]; exact (wt_app L39 y144.1).symm) ?_
    have hT : L46 = L146 ++ w145.1 := by rw [hT146, eL146]
    have h2 : y44.2 = w145.2 := by rw [h2, ew145]
    have hl := lv_sub (l' := [(0, .ref (ad40 a))]) hl [0] rfl
    have e9 : ([(0, .ref (ad40 a))] : List (Nat × Value)) = [(0, .ref (ad147 a))] := (by first | rfl | simp only [hn148 a hc])
    rw [e9] at hl
    clear e9
    have hk : (xt G L146).2.1 a = 0 := by rw [eL146]; exact xt_k _ hc hk
    have hc : a < (xt G L146).1 := by rw [eL146]; exact xt_l _ hc
    have hk2 : (xt G L146).2.1 b2 = 10 := by rw [eL146]; exact xt_k _ hc2 hk2
    have hc2 : b2 < (xt G L146).1 := by rw [eL146]; exact xt_l _ hc2
    have hk4 : (xt G L146).2.1 b4 = 10 := by rw [eL146]; exact xt_k _ hc4 hk4
    have hc4 : b4 < (xt G L146).1 := by rw [eL146]; exact xt_l _ hc4
    have hk10 : (xt G L146).2.1 b10 = 10 := by rw [eL146]; exact xt_k _ hc10 hk10
    have hc10 : b10 < (xt G L146).1 := by rw [eL146]; exact xt_l _ hc10
    have hk16 : (xt G L146).2.1 b16 = 10 := by rw [eL146]; exact xt_k _ hc16 hk16
    have hc16 : b16 < (xt G L146).1 := by rw [eL146]; exact xt_l _ hc16
    have hk22 : (xt G L146).2.1 b22 = 10 := by rw [eL146]; exact xt_k _ hc22 hk22
    have hc22 : b22 < (xt G L146).1 := by rw [eL146]; exact xt_l _ hc22
    have hk28 : (xt G L146).2.1 b28 = 10 := by rw [eL146]; exact xt_k _ hc28 hk28
    have hc28 : b28 < (xt G L146).1 := by rw [eL146]; exact xt_l _ hc28
    have hk34 : (xt G L146).2.1 b34 = 13 := by rw [eL146]; exact xt_k _ hc34 hk34
    have hc34 : b34 < (xt G L146).1 := by rw [eL146]; exact xt_l _ hc34
    have hk36 : (xt G L146).2.1 b36 = 10 := by rw [eL146]; exact xt_k _ hc36 hk36
    have hc36 : b36 < (xt G L146).1 := by rw [eL146]; exact xt_l _ hc36
    have hk42 : (xt G L146).2.1 b42 = 13 := by rw [eL146]; exact xt_k _ hc42 hk42
    have hc42 : b42 < (xt G L146).1 := by rw [eL146]; exact xt_l _ hc42
    have hk143 : (xt G L146).2.1 b143 = 10 := by rw [eL146]; exact xt_k _ hc143 hk143
    have hc143 : b143 < (xt G L146).1 := by rw [eL146]; exact xt_l _ hc143
    have hag := agr_t (xt_ge _ _) hag hn148
    refine lv_goto (tgt := 153) hx hb dX0_writeSequence_98 (by decide) ?_
    obtain rfl := Option.some.inj hF
    have e1 : L46 = L146 := by rw [hT]; exact List.append_nil _
    have e2 : y44.2 = y144.2 := h2
    rw [e1] at J44
    try rw [e2] at J44
    exact J44 _ hag _ _ _ hP hD hS (lv_sub hl [0] rfl)
