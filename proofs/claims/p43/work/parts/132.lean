set_option maxRecDepth 20000 in
theorem gX0_drawByLists_X9_clearMoves : GoodIn wuX0_drawByLists (wsV RX0 378 RX9 yX9_clearMoves wuX9_clearMoves) := gu_V mw_2509 mw_1792 mw_1793 mw_171 mw_1794
set_option maxRecDepth 20000 in
set_option maxRecDepth 20000 in
theorem gX0_drawByLists_X9_plan : GoodIn wuX0_drawByLists (wsV RX0 384 RX9 yX9_plan wuX9_plan) := gu_V mw_2511 mw_1944 mw_1945 mw_171 mw_1946
set_option maxRecDepth 20000 in
set_option maxRecDepth 20000 in
theorem gX0_drawByLists_X0_drawVectors : GoodIn wuX0_drawByLists (wsV RX0 397 RX0 yX0_drawVectors wuX0_drawVectors) := gu_V mw_2513 mw_2515 mw_127 mw_175 mw_2516
set_option maxRecDepth 20000 in
theorem gX0_drawByLists_X9_setReference : GoodIn wuX0_drawByLists (wsV RX0 393 RX9 yX9_setReference wuX9_setReference) := gu_V mw_2512 mw_1966 mw_1967 mw_171 mw_1968
set_option maxRecDepth 20000 in
set_option maxRecDepth 20000 in
theorem gX0_drawByLists_X0_draw : GoodIn wuX0_drawByLists (wsV RX0 334 RX0 yX0_draw wuX0_draw) := gu_V mw_2470 mw_2472 mw_121 mw_175 mw_2473
set_option maxRecDepth 20000 in
set_option maxRecDepth 20000 in
theorem gX0_drawByLists_X9_skip : GoodIn wuX0_drawByLists (wsV RX0 381 RX9 yX9_skip wuX9_skip) := gu_V mw_2510 mw_1932 mw_1933 mw_171 mw_1934
set_option maxRecDepth 20000 in
set_option maxRecDepth 20000 in
theorem gX0_drawByLists_X9_direct : GoodIn wuX0_drawByLists (wsV RX0 372 RX9 yX9_direct wuX9_direct) := gu_V mw_2504 mw_1875 mw_1876 mw_171 mw_1877
set_option maxRecDepth 20000 in
set_option maxRecDepth 20000 in
theorem gX0_drawByLists_X0_drawSubs : GoodIn wuX0_drawByLists (wsV RX0 375 RX0 yX0_drawSubs wuX0_drawSubs) := gu_V mw_2505 mw_2507 mw_126 mw_175 mw_2508
set_option maxRecDepth 20000 in
theorem dX0_drawByLists_0 : decode cX0_drawByLists 0 = .ok (.iload_n 3, 1) := by decide +kernel
theorem dX0_drawByLists_1 : decode cX0_drawByLists 1 = .ok (.istore 4, 2) := by decide +kernel
theorem dX0_drawByLists_3 : decode cX0_drawByLists 3 = .ok (.iload_n 2, 1) := by decide +kernel
theorem dX0_drawByLists_4 : decode cX0_drawByLists 4 = .ok (.iconst 1, 1) := by decide +kernel
theorem dX0_drawByLists_5 : decode cX0_drawByLists 5 = .ok (.if_icmp .ne 14, 3) := by decide +kernel
theorem dX0_drawByLists_8 : decode cX0_drawByLists 8 = .ok (.iload 4, 2) := by decide +kernel
theorem dX0_drawByLists_10 : decode cX0_drawByLists 10 = .ok (.iconst 1, 1) := by decide +kernel
theorem dX0_drawByLists_11 : decode cX0_drawByLists 11 = .ok (.if_icmp .ge 8, 3) := by decide +kernel
theorem dX0_drawByLists_14 : decode cX0_drawByLists 14 = .ok (.bipush 15, 2) := by decide +kernel
theorem dX0_drawByLists_16 : decode cX0_drawByLists 16 = .ok (.goto 4, 3) := by decide +kernel
theorem dX0_drawByLists_19 : decode cX0_drawByLists 19 = .ok (.iconst 0, 1) := by decide +kernel
theorem dX0_drawByLists_20 : decode cX0_drawByLists 20 = .ok (.istore 5, 2) := by decide +kernel
theorem dX0_drawByLists_22 : decode cX0_drawByLists 22 = .ok (.iload 5, 2) := by decide +kernel
theorem dX0_drawByLists_24 : decode cX0_drawByLists 24 = .ok (.bipush 15, 2) := by decide +kernel
theorem dX0_drawByLists_26 : decode cX0_drawByLists 26 = .ok (.if_icmp .ne 22, 3) := by decide +kernel
theorem dX0_drawByLists_29 : decode cX0_drawByLists 29 = .ok (.aload_n 0, 1) := by decide +kernel
theorem dX0_drawByLists_30 : decode cX0_drawByLists 30 = .ok (.getfield 36, 3) := by decide +kernel
theorem dX0_drawByLists_33 : decode cX0_drawByLists 33 = .ok (.iload_n 1, 1) := by decide +kernel
theorem dX0_drawByLists_34 : decode cX0_drawByLists 34 = .ok (.bipush 15, 2) := by decide +kernel
theorem dX0_drawByLists_36 : decode cX0_drawByLists 36 = .ok (.invokevirtual 372, 3) := by decide +kernel
theorem dX0_drawByLists_39 : decode cX0_drawByLists 39 = .ok (.ifCond .ne 9, 3) := by decide +kernel
theorem dX0_drawByLists_42 : decode cX0_drawByLists 42 = .ok (.iconst 1, 1) := by decide +kernel
theorem dX0_drawByLists_43 : decode cX0_drawByLists 43 = .ok (.istore 4, 2) := by decide +kernel
theorem dX0_drawByLists_45 : decode cX0_drawByLists 45 = .ok (.iconst 0, 1) := by decide +kernel
theorem dX0_drawByLists_46 : decode cX0_drawByLists 46 = .ok (.istore 5, 2) := by decide +kernel
theorem dX0_drawByLists_48 : decode cX0_drawByLists 48 = .ok (.iload_n 2, 1) := by decide +kernel
theorem dX0_drawByLists_49 : decode cX0_drawByLists 49 = .ok (.ifCond .ne 12, 3) := by decide +kernel
theorem dX0_drawByLists_52 : decode cX0_drawByLists 52 = .ok (.iload 4, 2) := by decide +kernel
theorem dX0_drawByLists_54 : decode cX0_drawByLists 54 = .ok (.iconst 3, 1) := by decide +kernel
theorem dX0_drawByLists_55 : decode cX0_drawByLists 55 = .ok (.if_icmp .ne 21, 3) := by decide +kernel
theorem dX0_drawByLists_58 : decode cX0_drawByLists 58 = .ok (.goto 10, 3) := by decide +kernel
theorem dX0_drawByLists_61 : decode cX0_drawByLists 61 = .ok (.iload 4, 2) := by decide +kernel
theorem dX0_drawByLists_63 : decode cX0_drawByLists 63 = .ok (.bipush 22, 2) := by decide +kernel
theorem dX0_drawByLists_65 : decode cX0_drawByLists 65 = .ok (.if_icmp .ne 11, 3) := by decide +kernel
theorem dX0_drawByLists_68 : decode cX0_drawByLists 68 = .ok (.aload_n 0, 1) := by decide +kernel
theorem dX0_drawByLists_69 : decode cX0_drawByLists 69 = .ok (.iload_n 1, 1) := by decide +kernel
theorem dX0_drawByLists_70 : decode cX0_drawByLists 70 = .ok (.iload_n 2, 1) := by decide +kernel
theorem dX0_drawByLists_71 : decode cX0_drawByLists 71 = .ok (.invokevirtual 375, 3) := by decide +kernel
theorem dX0_drawByLists_74 : decode cX0_drawByLists 74 = .ok (.istore 5, 2) := by decide +kernel
theorem dX0_drawByLists_76 : decode cX0_drawByLists 76 = .ok (.aload_n 0, 1) := by decide +kernel
theorem dX0_drawByLists_77 : decode cX0_drawByLists 77 = .ok (.getfield 36, 3) := by decide +kernel
theorem dX0_drawByLists_80 : decode cX0_drawByLists 80 = .ok (.iload_n 1, 1) := by decide +kernel
theorem dX0_drawByLists_81 : decode cX0_drawByLists 81 = .ok (.invokevirtual 378, 3) := by decide +kernel
theorem dX0_drawByLists_84 : decode cX0_drawByLists 84 = .ok (.iload 5, 2) := by decide +kernel
theorem dX0_drawByLists_86 : decode cX0_drawByLists 86 = .ok (.ifCond .eq 14, 3) := by decide +kernel
theorem dX0_drawByLists_89 : decode cX0_drawByLists 89 = .ok (.aload_n 0, 1) := by decide +kernel
theorem dX0_drawByLists_90 : decode cX0_drawByLists 90 = .ok (.getfield 36, 3) := by decide +kernel
theorem dX0_drawByLists_93 : decode cX0_drawByLists 93 = .ok (.iload_n 1, 1) := by decide +kernel
theorem dX0_drawByLists_94 : decode cX0_drawByLists 94 = .ok (.iload 5, 2) := by decide +kernel
theorem dX0_drawByLists_96 : decode cX0_drawByLists 96 = .ok (.invokevirtual 372, 3) := by decide +kernel
theorem dX0_drawByLists_99 : decode cX0_drawByLists 99 = .ok (.pop, 1) := by decide +kernel
theorem dX0_drawByLists_100 : decode cX0_drawByLists 100 = .ok (.aload_n 0, 1) := by decide +kernel
theorem dX0_drawByLists_101 : decode cX0_drawByLists 101 = .ok (.getfield 36, 3) := by decide +kernel
theorem dX0_drawByLists_104 : decode cX0_drawByLists 104 = .ok (.getfield 216, 3) := by decide +kernel
theorem dX0_drawByLists_107 : decode cX0_drawByLists 107 = .ok (.bipush 8, 2) := by decide +kernel
theorem dX0_drawByLists_109 : decode cX0_drawByLists 109 = .ok (.iload_n 1, 1) := by decide +kernel
theorem dX0_drawByLists_110 : decode cX0_drawByLists 110 = .ok (.imul, 1) := by decide +kernel
theorem dX0_drawByLists_111 : decode cX0_drawByLists 111 = .ok (.iconst 1, 1) := by decide +kernel
theorem dX0_drawByLists_112 : decode cX0_drawByLists 112 = .ok (.iadd, 1) := by decide +kernel
theorem dX0_drawByLists_113 : decode cX0_drawByLists 113 = .ok (.iload 4, 2) := by decide +kernel
theorem dX0_drawByLists_115 : decode cX0_drawByLists 115 = .ok (.iastore, 1) := by decide +kernel
theorem dX0_drawByLists_116 : decode cX0_drawByLists 116 = .ok (.iload 5, 2) := by decide +kernel
theorem dX0_drawByLists_118 : decode cX0_drawByLists 118 = .ok (.bipush 15, 2) := by decide +kernel
theorem dX0_drawByLists_120 : decode cX0_drawByLists 120 = .ok (.if_icmp .ne 4, 3) := by decide +kernel
theorem dX0_drawByLists_123 : decode cX0_drawByLists 123 = .ok (.return_, 1) := by decide +kernel
theorem dX0_drawByLists_124 : decode cX0_drawByLists 124 = .ok (.iload 4, 2) := by decide +kernel
theorem dX0_drawByLists_126 : decode cX0_drawByLists 126 = .ok (.ifCond .ge 12, 3) := by decide +kernel
theorem dX0_drawByLists_129 : decode cX0_drawByLists 129 = .ok (.aload_n 0, 1) := by decide +kernel
theorem dX0_drawByLists_130 : decode cX0_drawByLists 130 = .ok (.getfield 36, 3) := by decide +kernel
theorem dX0_drawByLists_133 : decode cX0_drawByLists 133 = .ok (.iload_n 1, 1) := by decide +kernel
theorem dX0_drawByLists_134 : decode cX0_drawByLists 134 = .ok (.invokevirtual 381, 3) := by decide +kernel
theorem dX0_drawByLists_137 : decode cX0_drawByLists 137 = .ok (.return_, 1) := by decide +kernel
theorem dX0_drawByLists_138 : decode cX0_drawByLists 138 = .ok (.aload_n 0, 1) := by decide +kernel
theorem dX0_drawByLists_139 : decode cX0_drawByLists 139 = .ok (.getfield 36, 3) := by decide +kernel
theorem dX0_drawByLists_142 : decode cX0_drawByLists 142 = .ok (.iload_n 2, 1) := by decide +kernel
theorem dX0_drawByLists_143 : decode cX0_drawByLists 143 = .ok (.iload 4, 2) := by decide +kernel
theorem dX0_drawByLists_145 : decode cX0_drawByLists 145 = .ok (.invokevirtual 384, 3) := by decide +kernel
theorem dX0_drawByLists_148 : decode cX0_drawByLists 148 = .ok (.iconst 0, 1) := by decide +kernel
theorem dX0_drawByLists_149 : decode cX0_drawByLists 149 = .ok (.istore 6, 2) := by decide +kernel
theorem dX0_drawByLists_151 : decode cX0_drawByLists 151 = .ok (.iload 6, 2) := by decide +kernel
theorem dX0_drawByLists_153 : decode cX0_drawByLists 153 = .ok (.iconst 2, 1) := by decide +kernel
theorem dX0_drawByLists_154 : decode cX0_drawByLists 154 = .ok (.if_icmp .ge 99, 3) := by decide +kernel
theorem dX0_drawByLists_157 : decode cX0_drawByLists 157 = .ok (.aload_n 0, 1) := by decide +kernel
theorem dX0_drawByLists_158 : decode cX0_drawByLists 158 = .ok (.getfield 36, 3) := by decide +kernel
theorem dX0_drawByLists_161 : decode cX0_drawByLists 161 = .ok (.getfield 81, 3) := by decide +kernel
theorem dX0_drawByLists_164 : decode cX0_drawByLists 164 = .ok (.getfield 252, 3) := by decide +kernel
theorem dX0_drawByLists_167 : decode cX0_drawByLists 167 = .ok (.bipush 9, 2) := by decide +kernel
theorem dX0_drawByLists_169 : decode cX0_drawByLists 169 = .ok (.iload 6, 2) := by decide +kernel
theorem dX0_drawByLists_171 : decode cX0_drawByLists 171 = .ok (.iadd, 1) := by decide +kernel
theorem dX0_drawByLists_172 : decode cX0_drawByLists 172 = .ok (.iaload, 1) := by decide +kernel
theorem dX0_drawByLists_173 : decode cX0_drawByLists 173 = .ok (.istore 7, 2) := by decide +kernel
theorem dX0_drawByLists_175 : decode cX0_drawByLists 175 = .ok (.iconst 0, 1) := by decide +kernel
theorem dX0_drawByLists_176 : decode cX0_drawByLists 176 = .ok (.istore 8, 2) := by decide +kernel
theorem dX0_drawByLists_178 : decode cX0_drawByLists 178 = .ok (.iload 8, 2) := by decide +kernel
theorem dX0_drawByLists_180 : decode cX0_drawByLists 180 = .ok (.aload_n 0, 1) := by decide +kernel
theorem dX0_drawByLists_181 : decode cX0_drawByLists 181 = .ok (.getfield 36, 3) := by decide +kernel
theorem dX0_drawByLists_184 : decode cX0_drawByLists 184 = .ok (.getfield 387, 3) := by decide +kernel
theorem dX0_drawByLists_187 : decode cX0_drawByLists 187 = .ok (.if_icmp .ge 60, 3) := by decide +kernel
theorem dX0_drawByLists_190 : decode cX0_drawByLists 190 = .ok (.aload_n 0, 1) := by decide +kernel
theorem dX0_drawByLists_191 : decode cX0_drawByLists 191 = .ok (.getfield 36, 3) := by decide +kernel
theorem dX0_drawByLists_194 : decode cX0_drawByLists 194 = .ok (.getfield 390, 3) := by decide +kernel
theorem dX0_drawByLists_197 : decode cX0_drawByLists 197 = .ok (.iconst 4, 1) := by decide +kernel
theorem dX0_drawByLists_198 : decode cX0_drawByLists 198 = .ok (.iload 8, 2) := by decide +kernel
theorem dX0_drawByLists_200 : decode cX0_drawByLists 200 = .ok (.imul, 1) := by decide +kernel
theorem dX0_drawByLists_201 : decode cX0_drawByLists 201 = .ok (.iconst 3, 1) := by decide +kernel
theorem dX0_drawByLists_202 : decode cX0_drawByLists 202 = .ok (.iadd, 1) := by decide +kernel
theorem dX0_drawByLists_203 : decode cX0_drawByLists 203 = .ok (.iaload, 1) := by decide +kernel
theorem dX0_drawByLists_204 : decode cX0_drawByLists 204 = .ok (.iload 6, 2) := by decide +kernel
theorem dX0_drawByLists_206 : decode cX0_drawByLists 206 = .ok (.ishr, 1) := by decide +kernel
theorem dX0_drawByLists_207 : decode cX0_drawByLists 207 = .ok (.iconst 1, 1) := by decide +kernel
theorem dX0_drawByLists_208 : decode cX0_drawByLists 208 = .ok (.iand, 1) := by decide +kernel
theorem dX0_drawByLists_209 : decode cX0_drawByLists 209 = .ok (.iconst 1, 1) := by decide +kernel
theorem dX0_drawByLists_210 : decode cX0_drawByLists 210 = .ok (.if_icmp .ne 31, 3) := by decide +kernel
theorem dX0_drawByLists_213 : decode cX0_drawByLists 213 = .ok (.aload_n 0, 1) := by decide +kernel
theorem dX0_drawByLists_214 : decode cX0_drawByLists 214 = .ok (.getfield 36, 3) := by decide +kernel
theorem dX0_drawByLists_217 : decode cX0_drawByLists 217 = .ok (.iload_n 1, 1) := by decide +kernel
theorem dX0_drawByLists_218 : decode cX0_drawByLists 218 = .ok (.iload 6, 2) := by decide +kernel
theorem dX0_drawByLists_220 : decode cX0_drawByLists 220 = .ok (.iload 8, 2) := by decide +kernel
theorem dX0_drawByLists_222 : decode cX0_drawByLists 222 = .ok (.iload 7, 2) := by decide +kernel
theorem dX0_drawByLists_224 : decode cX0_drawByLists 224 = .ok (.iconst 1, 1) := by decide +kernel
theorem dX0_drawByLists_225 : decode cX0_drawByLists 225 = .ok (.if_icmp .le 12, 3) := by decide +kernel
theorem dX0_drawByLists_228 : decode cX0_drawByLists 228 = .ok (.aload_n 0, 1) := by decide +kernel
theorem dX0_drawByLists_229 : decode cX0_drawByLists 229 = .ok (.iload 7, 2) := by decide +kernel
theorem dX0_drawByLists_231 : decode cX0_drawByLists 231 = .ok (.invokevirtual 334, 3) := by decide +kernel
theorem dX0_drawByLists_234 : decode cX0_drawByLists 234 = .ok (.goto 4, 3) := by decide +kernel
theorem dX0_drawByLists_237 : decode cX0_drawByLists 237 = .ok (.iconst 0, 1) := by decide +kernel
theorem dX0_drawByLists_238 : decode cX0_drawByLists 238 = .ok (.invokevirtual 393, 3) := by decide +kernel
theorem dX0_drawByLists_241 : decode cX0_drawByLists 241 = .ok (.iinc 8 1, 3) := by decide +kernel
theorem dX0_drawByLists_244 : decode cX0_drawByLists 244 = .ok (.goto (-66), 3) := by decide +kernel
theorem dX0_drawByLists_247 : decode cX0_drawByLists 247 = .ok (.iinc 6 1, 3) := by decide +kernel
theorem dX0_drawByLists_250 : decode cX0_drawByLists 250 = .ok (.goto (-99), 3) := by decide +kernel
theorem dX0_drawByLists_253 : decode cX0_drawByLists 253 = .ok (.aload_n 0, 1) := by decide +kernel
theorem dX0_drawByLists_254 : decode cX0_drawByLists 254 = .ok (.iload_n 1, 1) := by decide +kernel
theorem dX0_drawByLists_255 : decode cX0_drawByLists 255 = .ok (.iconst 0, 1) := by decide +kernel
theorem dX0_drawByLists_256 : decode cX0_drawByLists 256 = .ok (.invokevirtual 397, 3) := by decide +kernel
theorem dX0_drawByLists_259 : decode cX0_drawByLists 259 = .ok (.aload_n 0, 1) := by decide +kernel
theorem dX0_drawByLists_260 : decode cX0_drawByLists 260 = .ok (.iload_n 1, 1) := by decide +kernel
theorem dX0_drawByLists_261 : decode cX0_drawByLists 261 = .ok (.iconst 1, 1) := by decide +kernel
theorem dX0_drawByLists_262 : decode cX0_drawByLists 262 = .ok (.invokevirtual 397, 3) := by decide +kernel
theorem dX0_drawByLists_265 : decode cX0_drawByLists 265 = .ok (.return_, 1) := by decide +kernel
def FX0_drawByLists (G : GG) (M : DD) (a : Nat) (p0 : Int32) (p1 : Int32) (p2 : Int32) : Option (DD) :=
  bnd (if p1 = ((1 : Int32)) then (bnd (if ((1 : Int32)) ≤ p2 then (some ((0 : Int32))) else
  (some ((15 : Int32)))) fun (y67 : Int32) =>
  some (y67)) else
  (some ((0 : Int32)))) fun (y1 : Int32) =>
  bnd (if y1 = ((15 : Int32)) then (dr G 9 ((M.2 a 3)) fun b62 =>
  bnd (FX9_direct G M b62 p0 ((15 : Int32))) fun y63 =>
  bnd (if y63.2 = ((0 : Int32)) then (some ((1 : Int32), (0 : Int32))) else
  (some (p2, y1))) fun (y64 : Int32 × Int32) =>
  some (y64.1, y64.2, y63.1)) else
  (some (p2, y1, M))) fun (y2 : Int32 × Int32 × DD) =>
  bnd (if p1 = ((0 : Int32)) then (bnd (if y2.1 = ((3 : Int32)) then (bnd (FX0_drawSubs G y2.2.2 a p0 p1) fun y60 =>
  some (y60.2, y60.1)) else
  (some (y2.2.1, y2.2.2))) fun (y58 : Int32 × DD) =>
  some (y58.1, y58.2)) else
  (bnd (if y2.1 = ((22 : Int32)) then (bnd (FX0_drawSubs G y2.2.2 a p0 p1) fun y57 =>
  some (y57.2, y57.1)) else
  (some (y2.2.1, y2.2.2))) fun (y55 : Int32 × DD) =>
  some (y55.1, y55.2))) fun (y3 : Int32 × DD) =>
  dr G 9 ((y3.2.2 a 3)) fun b4 =>
  bnd (FX9_clearMoves G y3.2 b4 p0) fun y5 =>
  bnd (if y3.1 = ((0 : Int32)) then (some (y5)) else
  (dr G 9 ((y5.2 a 3)) fun b52 =>
  bnd (FX9_direct G y5 b52 p0 y3.1) fun y53 =>
  some (y53.1))) fun (y6 : DD) =>
  dr G 9 ((y6.2 a 3)) fun b7 =>
  ltt ((((8 : Int32)) * p0)) fun x8 =>
  ltt ((x8 + ((1 : Int32)))) fun x9 =>
  dr G 13 ((y6.2 b7 6)) fun b10 =>
  chk (¬ (x9 < 0 ∨ G.2.2 b10 ≤ x9.toNatClampNeg)) <|
  ltt (uI y6 b10 x9.toNatClampNeg y2.1) fun M11 =>
  if y3.1 = ((15 : Int32)) then (some M11) else
  (if ((0 : Int32)) ≤ y2.1 then (dr G 9 ((M11.2 a 3)) fun b14 =>
  bnd (FX9_plan G M11 b14 p1 y2.1) fun y15 =>
  bnd (itr (fun (s17 : Int32 × DD) => ((if ((2 : Int32)) ≤ s17.1 then (some (.inr (s17.1, s17.2))) else
  (dr G 9 ((s17.2.2 a 3)) fun b23 =>
  dr G 3 ((s17.2.2 b23 1)) fun b24 =>
  ltt ((((9 : Int32)) + s17.1)) fun x25 =>
  dr G 13 ((s17.2.2 b24 0)) fun b26 =>
  chk (¬ (x25 < 0 ∨ G.2.2 b26 ≤ x25.toNatClampNeg)) <|
  ltt (s17.2.1 b26 x25.toNatClampNeg) fun x27 =>
  bnd (itr (fun (s29 : Int32 × DD) => ((dr G 9 ((s29.2.2 a 3)) fun b33 =>
  ltt (s29.2.1 b33 16) fun x34 =>
  if x34 ≤ s29.1 then (some (.inr (s29.1, s29.2))) else
  (ltt ((((4 : Int32)) * s29.1)) fun x36 =>
  ltt ((x36 + ((3 : Int32)))) fun x37 =>
  dr G 13 ((s29.2.2 b33 15)) fun b38 =>
  chk (¬ (x37 < 0 ∨ G.2.2 b38 ≤ x37.toNatClampNeg)) <|
  ltt (s29.2.1 b38 x37.toNatClampNeg) fun x39 =>
  ltt ((x39 >>> (s17.1 &&& 31))) fun x40 =>
  ltt ((x40 &&& ((1 : Int32)))) fun x41 =>
  bnd (if x41 = ((1 : Int32)) then (bnd (if x27 ≤ ((1 : Int32)) then (some ((0 : Int32), s29.2)) else
  (bnd (FX0_draw G s29.2 a x27) fun y48 =>
  some (y48.2, y48.1))) fun (y45 : Int32 × DD) =>
  bnd (FX9_setReference G y45.2 b33 p0 s17.1 s29.1 y45.1) fun y46 =>
  some (y46)) else
  (some (s29.2))) fun (y42 : DD) =>
  ltt (s29.1 + (1 : Int32)) fun x43 =>
  some (.inl (x43, y42)))) : Option ((Int32 × DD) ⊕ (Int32 × DD)))) 1000000 ((0 : Int32), s17.2)) fun (y28 : Int32 × DD) =>
  ltt (s17.1 + (1 : Int32)) fun x31 =>
  some (.inl (x31, y28.2)))) : Option ((Int32 × DD) ⊕ (Int32 × DD)))) 1000000 ((0 : Int32), y15)) fun (y16 : Int32 × DD) =>
  bnd (FX0_drawVectors G y16.2 a p0 ((0 : Int32))) fun y19 =>
  bnd (FX0_drawVectors G y19 a p0 ((1 : Int32))) fun y20 =>
  some y20) else
  (dr G 9 ((M11.2 a 3)) fun b49 =>
  bnd (FX9_skip G M11 b49 p0) fun y50 =>
  some y50))
set_option maxHeartbeats 4000000 in
set_option maxRecDepth 100000 in
theorem kX0_drawByLists (l : Launch) (D : va_G) (ct : CT) (ad : Nat → Nat) (Z : Nat → Nat) (G : GG) (M : DD) (sz : Nat) (a : Nat) (p0 : Int32) (p1 : Int32) (p2 : Int32) (y : DD) (hc : a < G.1) (hk : G.2.1 a = 0) (hF : FX0_drawByLists G M a p0 p1 p2 = some y) : Met l yX0_drawByLists wuX0_drawByLists ({ frames := 5, cells := 0, slots := 0, locals := 134 }) (va_Pc [.ref (ad a), .int p0, .int p1, .int p2] (kB D ct ad Z G M sz)) (va_Qv (fun (_ : Unit) => True) (fun _ t => kE D ct ad G (wA ad G sz) y t) (wA ad G sz)) 0 0 (wA ad G sz) := by
  refine Met.ofW (cc := cX0_drawByLists) (maxL := 9) (ret := none) (by decide) rfl ?_
  intro p e s m args below meth c s₁ B hml hv
  obtain ⟨rfl, hsz, hP, hK, hD0, hZ, hN⟩ := hv
  have hx := B.exec
  have hb := B.bytes
  have hr := B.returns
  have hts := atoms_spec (ws := wuX0_drawByLists) B.pre
  have hown : s.vm.findClass RX0 = some m.cls := findClass_of_methodNamed B.named
  have hlocks := B.notSynchronized
  subst hsz
  have hD := wD_self (sz := s.heap.size) hD0
  have hA9 : ∀ q, s.heap.size ≤ q → wA ad G s.heap.size q := fun q h => Or.inr h
  generalize hAe : wA ad G s.heap.size = A at hD hA9 hZ ⊢
  have hS : va_S A s.heap s.heap [] := va_S.rf
  have hl := lv_entry ([.ref (ad a), .int p0, .int p1, .int p2]) (n := 9) (Nat.le_of_ble_eq_true rfl)
  rw [lg_entry_eq]
  generalize (lg_sl ([.ref (ad a), .int p0, .int p1, .int p2]) ++ List.replicate (9 - (lg_sl ([.ref (ad a), .int p0, .int p1, .int p2])).length) Slot.unset).toArray = ls at hl ⊢
  have hl : lv_has ls 9 [(0, .ref (ad a)), (1, .int p0), (2, .int p1), (3, .int p2)] := hl
  unfold FX0_drawByLists at hF
  refine lv_iload_n hx hb dX0_drawByLists_0 rfl (lv_at hl 3 rfl) ?_
  refine lv_istore (lv' := [(4, .int p2), (0, .ref (ad a)), (1, .int p0), (2, .int p1), (3, .int p2)]) hx hb dX0_drawByLists_1 hl (by decide) rfl (fun ls hl => ?_)
  refine lv_iload_n hx hb dX0_drawByLists_3 rfl (lv_at hl 3 rfl) ?_
  refine lv_iconst (v := (1 : Int32)) hx hb dX0_drawByLists_4 (by decide) ?_
  obtain ⟨y1, hy1, hF⟩ := bnd_some hF
  have J1 : ∀ (H : Heap) (locs : List Loc) (ls : Array Slot), va_P D classes (wld ct ad G M) H → va_D A (wld ct ad G M) → va_S A s.heap H locs → lv_has ls 9 [(4, .int p2), (0, .ref (ad a)), (1, .int p0), (2, .int p1), (3, .int p2)] → W p l e (headSpec wuX0_drawByLists ({ frames := 5, cells := 0, slots := 0, locals := 134 })).room s m ([.ref (ad a), .int p0, .int p1, .int p2] : List Value).toArray below meth c H locs 0 0 (MQ below (va_Qv (fun (_ : Unit) => True) (fun _ t => kE D ct ad G A y t) A) ([.ref (ad a), .int p0, .int p1, .int p2] : List Value).toArray s 0 0 A) (F0 m 20 ls [.int y1]) := by
    intro H locs ls hP hD hS hl
    refine lv_istore (lv' := [(5, .int y1), (4, .int p2), (0, .ref (ad a)), (1, .int p0), (2, .int p1), (3, .int p2)]) hx hb dX0_drawByLists_20 hl (by decide) rfl (fun ls hl => ?_)
    refine lv_iload hx hb dX0_drawByLists_22 (lv_at hl 0 rfl) ?_
    refine lv_bipush (v := (15 : Int32)) hx hb dX0_drawByLists_24 (by decide) ?_
    obtain ⟨y2, hy2, hF⟩ := bnd_some hF
    have J2 : ∀ (H : Heap) (locs : List Loc) (ls : Array Slot), va_P D classes (wld ct ad G y2.2.2) H → va_D A (wld ct ad G y2.2.2) → va_S A s.heap H locs → lv_has ls 9 [(5, .int y2.2.1), (4, .int y2.1), (0, .ref (ad a)), (1, .int p0), (2, .int p1), (3, .int p2)] → W p l e (headSpec wuX0_drawByLists ({ frames := 5, cells := 0, slots := 0, locals := 134 })).room s m ([.ref (ad a), .int p0, .int p1, .int p2] : List Value).toArray below meth c H locs 0 0 (MQ below (va_Qv (fun (_ : Unit) => True) (fun _ t => kE D ct ad G A y t) A) ([.ref (ad a), .int p0, .int p1, .int p2] : List Value).toArray s 0 0 A) (F0 m 48 ls []) := by
      intro H locs ls hP hD hS hl
      refine lv_iload_n hx hb dX0_drawByLists_48 rfl (lv_at hl 4 rfl) ?_
      obtain ⟨y3, hy3, hF⟩ := bnd_some hF
      have J3 : ∀ (H : Heap) (locs : List Loc) (ls : Array Slot), va_P D classes (wld ct ad G y3.2) H → va_D A (wld ct ad G y3.2) → va_S A s.heap H locs → lv_has ls 9 [(5, .int y3.1), (4, .int y2.1), (0, .ref (ad a)), (1, .int p0), (2, .int p1), (3, .int p2)] → W p l e (headSpec wuX0_drawByLists ({ frames := 5, cells := 0, slots := 0, locals := 134 })).room s m ([.ref (ad a), .int p0, .int p1, .int p2] : List Value).toArray below meth c H locs 0 0 (MQ below (va_Qv (fun (_ : Unit) => True) (fun _ t => kE D ct ad G A y t) A) ([.ref (ad a), .int p0, .int p1, .int p2] : List Value).toArray s 0 0 A) (F0 m 76 ls []) := by
        intro H locs ls hP hD hS hl
        refine lv_aload_n hx hb dX0_drawByLists_76 rfl (lv_at hl 2 rfl) ?_
        refine va_get (D := D) (ci := 0) (v := va_re ad (y3.2.2 a 3)) (C := RX0) (T := TX0) (N := 21) hx hb hts (mus hf_X0) hown hK hP a (wld_o ct ad G y3.2 hc hk (by decide)) rfl 3 (by decide) (hts (.fieldLink RX0 36 "VideoSuite$Coder" "work" "LVideoSuite$Work;") (mu mw_817)) (fun _ h9 => h9) rfl dX0_drawByLists_77 ?_
        refine lv_iload_n hx hb dX0_drawByLists_80 rfl (lv_at hl 3 rfl) ?_
        obtain ⟨b4, ho4, hc4, hk4, hF⟩ := dr_some hF
        refine W_st (st' := [.int p0, .ref (ad b4)]) (by rw [va_some ho4]) ?_
        obtain ⟨y5, hy5, hF⟩ := bnd_some hF
        have hf9 := wA_in hD hA9 hS
        refine va_callv (va_runV (As := [.int p0]) (rest := []) ⟨hx, hb, hml, hown, hts⟩ (kX9_clearMoves l D ct ad Z G y3.2 H.size b4 p0 y5 hc4 hk4 hy5) (cwV 1 hts gX0_drawByLists_X9_clearMoves rfl rfl rfl (by decide +kernel) ⟨Nat.le_of_ble_eq_true rfl, Nat.le_of_ble_eq_true rfl⟩) ⟨fun a U g mk q => by obtain ⟨q0, q1, qP, qK, qD, qZ, qN⟩ := q; exact ⟨q0, q1, qP, va_K.moved (u := U) (U := U.calling g mk a) (Vm.Alike.refl U.vm) qK, qD, sF.moved (u := U) (U := U.calling g mk a) (Vm.Alike.refl U.vm) qZ, nF.same rfl qN⟩, va_recv hK hP (ci := 9) (q0 := b4) rfl (wld_o ct ad G y3.2 hc4 hk4 (by decide)), fun U hU hW => ⟨rfl, by rw [hU], by rw [hU]; exact hP, va_K.moved hW.alike hK, hD.weaken (fun _ _ _ _ => trivial), by rw [hU]; exact ((hZ.kept hS.2.1).narrow hf9).moved hW.alike, hN.warm hW⟩⟩ rfl rfl hl.1 rfl (lv_room (Nat.le_of_ble_eq_true rfl)) dX0_drawByLists_81 ⟨(Nat.zero_le _), (Nat.zero_le _)⟩) hS (fun q _ h => hf9 q h) hf9 (fun u t H locs ht hvm hw hB hz1 hk1 hS => ?_)
        obtain ⟨hP, hK9, hD9⟩ := hB
        rw [ht] at hP
        have hD := hD9.weaken (fun _ q _ h => hf9 q.1 h)
        refine lv_iload hx hb dX0_drawByLists_84 (lv_at hl 0 rfl) ?_
        obtain ⟨y6, hy6, hF⟩ := bnd_some hF
        have J6 : ∀ (H : Heap) (locs : List Loc) (ls : Array Slot), va_P D classes (wld ct ad G y6) H → va_D A (wld ct ad G y6) → va_S A s.heap H locs → lv_has ls 9 [(5, .int y3.1), (4, .int y2.1), (0, .ref (ad a)), (1, .int p0), (2, .int p1), (3, .int p2)] → W p l e (headSpec wuX0_drawByLists ({ frames := 5, cells := 0, slots := 0, locals := 134 })).room s m ([.ref (ad a), .int p0, .int p1, .int p2] : List Value).toArray below meth c H locs 0 0 (MQ below (va_Qv (fun (_ : Unit) => True) (fun _ t => kE D ct ad G A y t) A) ([.ref (ad a), .int p0, .int p1, .int p2] : List Value).toArray s 0 0 A) (F0 m 100 ls []) := by
          intro H locs ls hP hD hS hl
          refine lv_aload_n hx hb dX0_drawByLists_100 rfl (lv_at hl 2 rfl) ?_
          refine va_get (D := D) (ci := 0) (v := va_re ad (y6.2 a 3)) (C := RX0) (T := TX0) (N := 21) hx hb hts (mus hf_X0) hown hK hP a (wld_o ct ad G y6 hc hk (by decide)) rfl 3 (by decide) (hts (.fieldLink RX0 36 "VideoSuite$Coder" "work" "LVideoSuite$Work;") (mu mw_817)) (fun _ h9 => h9) rfl dX0_drawByLists_101 ?_
          obtain ⟨b7, ho7, hc7, hk7, hF⟩ := dr_some hF
          refine W_st (st' := [.ref (ad b7)]) (by rw [va_some ho7]) ?_
          refine va_get (D := D) (ci := 9) (v := va_re ad (y6.2 b7 6)) (C := RX9) (T := TX9) (N := 20) hx hb hts (mus hf_X9) hown hK hP b7 (wld_o ct ad G y6 hc7 hk7 (by decide)) rfl 6 (by decide) (hts (.fieldLink RX0 216 "VideoSuite$Work" "info" "[I") (mu mw_445)) (fun _ h9 => h9) rfl dX0_drawByLists_104 ?_
          refine lv_bipush (v := (8 : Int32)) hx hb dX0_drawByLists_107 (by decide) ?_
          refine lv_iload_n hx hb dX0_drawByLists_109 rfl (lv_at hl 3 rfl) ?_
          refine lv_imul hx hb dX0_drawByLists_110 ?_
          obtain ⟨x8, ex8, hF⟩ := ltt_some hF
          refine lv_topi (fun zx8 ezx8 => ?_)
          obtain rfl : x8 = zx8 := ex8.trans ezx8.symm
          refine lv_iconst (v := (1 : Int32)) hx hb dX0_drawByLists_111 (by decide) ?_
          refine lv_iadd hx hb dX0_drawByLists_112 ?_
          obtain ⟨x9, ex9, hF⟩ := ltt_some hF
          refine lv_topi (fun zx9 ezx9 => ?_)
          obtain rfl : x9 = zx9 := ex9.trans ezx9.symm
          refine lv_iload hx hb dX0_drawByLists_113 (lv_at hl 1 rfl) ?_
          obtain ⟨b10, ho10, hc10, hk10, hF⟩ := dr_some hF
          refine W_st (st' := [.int y2.1, .int x9, .ref (ad b10)]) (by rw [va_some ho10]) ?_
          obtain ⟨hvc, hF⟩ := chk_some hF
          refine va_iast hx hb hK hP hD hS b10 1 (wld_i ct ad G y6 hc10 hk10) rfl hvc dX0_drawByLists_115 (fun H locs hP hD hS => ?_)
          obtain ⟨M11, eM11, hF⟩ := ltt_some hF
          rw [set_i ct ad G y6 hc10 hk10, ← eM11] at hP hD
          refine lv_iload hx hb dX0_drawByLists_116 (lv_at hl 0 rfl) ?_
          refine lv_bipush (v := (15 : Int32)) hx hb dX0_drawByLists_118 (by decide) ?_
          refine lv_icmp_ne (tgt := 124) hx hb dX0_drawByLists_120 (by decide) (fun c12 => ?_) (fun c12 => ?_)
          · rw [if_neg c12] at hF
            refine lv_iload hx hb dX0_drawByLists_124 (lv_at hl 1 rfl) ?_
            refine lv_if_ge (tgt := 138) hx hb dX0_drawByLists_126 (by decide) (fun c13 => ?_) (fun c13 => ?_)
            · rw [if_pos c13] at hF
              refine lv_aload_n hx hb dX0_drawByLists_138 rfl (lv_at hl 2 rfl) ?_
              refine va_get (D := D) (ci := 0) (v := va_re ad (M11.2 a 3)) (C := RX0) (T := TX0) (N := 21) hx hb hts (mus hf_X0) hown hK hP a (wld_o ct ad G M11 hc hk (by decide)) rfl 3 (by decide) (hts (.fieldLink RX0 36 "VideoSuite$Coder" "work" "LVideoSuite$Work;") (mu mw_817)) (fun _ h9 => h9) rfl dX0_drawByLists_139 ?_
              refine lv_iload_n hx hb dX0_drawByLists_142 rfl (lv_at hl 4 rfl) ?_
              refine lv_iload hx hb dX0_drawByLists_143 (lv_at hl 1 rfl) ?_
              obtain ⟨b14, ho14, hc14, hk14, hF⟩ := dr_some hF
              refine W_st (st' := [.int y2.1, .int p1, .ref (ad b14)]) (by rw [va_some ho14]) ?_
              obtain ⟨y15, hy15, hF⟩ := bnd_some hF
              have hf9 := wA_in hD hA9 hS
              refine va_callv (va_runV (As := [.int p1, .int y2.1]) (rest := []) ⟨hx, hb, hml, hown, hts⟩ (kX9_plan l D ct ad Z G M11 H.size b14 p1 y2.1 y15 hc14 hk14 hy15) (cwV 2 hts gX0_drawByLists_X9_plan rfl rfl rfl (by decide +kernel) ⟨Nat.le_of_ble_eq_true rfl, Nat.le_of_ble_eq_true rfl⟩) ⟨fun a U g mk q => by obtain ⟨q0, q1, qP, qK, qD, qZ, qN⟩ := q; exact ⟨q0, q1, qP, va_K.moved (u := U) (U := U.calling g mk a) (Vm.Alike.refl U.vm) qK, qD, sF.moved (u := U) (U := U.calling g mk a) (Vm.Alike.refl U.vm) qZ, nF.same rfl qN⟩, va_recv hK hP (ci := 9) (q0 := b14) rfl (wld_o ct ad G M11 hc14 hk14 (by decide)), fun U hU hW => ⟨rfl, by rw [hU], by rw [hU]; exact hP, va_K.moved hW.alike hK, hD.weaken (fun _ _ _ _ => trivial), by rw [hU]; exact ((hZ.kept hS.2.1).narrow hf9).moved hW.alike, hN.warm hW⟩⟩ rfl rfl hl.1 rfl (lv_room (Nat.le_of_ble_eq_true rfl)) dX0_drawByLists_145 ⟨(Nat.zero_le _), (Nat.zero_le _)⟩) hS (fun q _ h => hf9 q h) hf9 (fun u t H locs ht hvm hw hB hz1 hk1 hS => ?_)
              obtain ⟨hP, hK9, hD9⟩ := hB
              rw [ht] at hP
              have hD := hD9.weaken (fun _ q _ h => hf9 q.1 h)
              refine lv_iconst (v := (0 : Int32)) hx hb dX0_drawByLists_148 (by decide) ?_
              refine lv_istore (lv' := [(6, .int (0 : Int32)), (5, .int y3.1), (4, .int y2.1), (0, .ref (ad a)), (1, .int p0), (2, .int p1), (3, .int p2)]) hx hb dX0_drawByLists_149 hl (by decide) rfl (fun ls hl => ?_)
              obtain ⟨y16, hy16, hF⟩ := bnd_some hF
              have K16 : ∀ (H : Heap) (locs : List Loc) (ls : Array Slot), va_P D classes (wld ct ad G y16.2) H → va_D A (wld ct ad G y16.2) → va_S A s.heap H locs → lv_has ls 9 [(6, .int y16.1), (5, .int y3.1), (4, .int y2.1), (0, .ref (ad a)), (1, .int p0), (2, .int p1), (3, .int p2)] → W p l e (headSpec wuX0_drawByLists ({ frames := 5, cells := 0, slots := 0, locals := 134 })).room s m ([.ref (ad a), .int p0, .int p1, .int p2] : List Value).toArray below meth c H locs 0 0 (MQ below (va_Qv (fun (_ : Unit) => True) (fun _ t => kE D ct ad G A y t) A) ([.ref (ad a), .int p0, .int p1, .int p2] : List Value).toArray s 0 0 A) (F0 m 253 ls []) := by
                intro H locs ls hP hD hS hl
                refine lv_aload_n hx hb dX0_drawByLists_253 rfl (lv_at hl 3 rfl) ?_
                refine lv_iload_n hx hb dX0_drawByLists_254 rfl (lv_at hl 4 rfl) ?_
                refine lv_iconst (v := (0 : Int32)) hx hb dX0_drawByLists_255 (by decide) ?_
                obtain ⟨y19, hy19, hF⟩ := bnd_some hF
                have hf9 := wA_in hD hA9 hS
                refine va_callv (va_runV (As := [.int p0, .int (0 : Int32)]) (rest := []) ⟨hx, hb, hml, hown, hts⟩ (kX0_drawVectors l D ct ad Z G y16.2 H.size a p0 ((0 : Int32)) y19 hc hk hy19) (cwV 2 hts gX0_drawByLists_X0_drawVectors rfl rfl rfl (by decide +kernel) ⟨Nat.le_of_ble_eq_true rfl, Nat.le_of_ble_eq_true rfl⟩) ⟨fun a U g mk q => by obtain ⟨q0, q1, qP, qK, qD, qZ, qN⟩ := q; exact ⟨q0, q1, qP, va_K.moved (u := U) (U := U.calling g mk a) (Vm.Alike.refl U.vm) qK, qD, sF.moved (u := U) (U := U.calling g mk a) (Vm.Alike.refl U.vm) qZ, nF.same rfl qN⟩, va_recv hK hP (ci := 0) (q0 := a) rfl (wld_o ct ad G y16.2 hc hk (by decide)), fun U hU hW => ⟨rfl, by rw [hU], by rw [hU]; exact hP, va_K.moved hW.alike hK, hD.weaken (fun _ _ _ _ => trivial), by rw [hU]; exact ((hZ.kept hS.2.1).narrow hf9).moved hW.alike, hN.warm hW⟩⟩ rfl rfl hl.1 rfl (lv_room (Nat.le_of_ble_eq_true rfl)) dX0_drawByLists_256 ⟨(Nat.zero_le _), (Nat.zero_le _)⟩) hS (fun q _ h => hf9 q h) hf9 (fun u t H locs ht hvm hw hB hz1 hk1 hS => ?_)
                obtain ⟨hP, hK9, hD9⟩ := hB
                rw [ht] at hP
                have hD := hD9.weaken (fun _ q _ h => hf9 q.1 h)
                refine lv_aload_n hx hb dX0_drawByLists_259 rfl (lv_at hl 3 rfl) ?_
                refine lv_iload_n hx hb dX0_drawByLists_260 rfl (lv_at hl 4 rfl) ?_
                refine lv_iconst (v := (1 : Int32)) hx hb dX0_drawByLists_261 (by decide) ?_
                obtain ⟨y20, hy20, hF⟩ := bnd_some hF
                have hf9 := wA_in hD hA9 hS
                refine va_callv (va_runV (As := [.int p0, .int (1 : Int32)]) (rest := []) ⟨hx, hb, hml, hown, hts⟩ (kX0_drawVectors l D ct ad Z G y19 H.size a p0 ((1 : Int32)) y20 hc hk hy20) (cwV 2 hts gX0_drawByLists_X0_drawVectors rfl rfl rfl (by decide +kernel) ⟨Nat.le_of_ble_eq_true rfl, Nat.le_of_ble_eq_true rfl⟩) ⟨fun a U g mk q => by obtain ⟨q0, q1, qP, qK, qD, qZ, qN⟩ := q; exact ⟨q0, q1, qP, va_K.moved (u := U) (U := U.calling g mk a) (Vm.Alike.refl U.vm) qK, qD, sF.moved (u := U) (U := U.calling g mk a) (Vm.Alike.refl U.vm) qZ, nF.same rfl qN⟩, va_recv hK hP (ci := 0) (q0 := a) rfl (wld_o ct ad G y19 hc hk (by decide)), fun U hU hW => ⟨rfl, by rw [hU], by rw [hU]; exact hP, va_K.moved hW.alike hK, hD.weaken (fun _ _ _ _ => trivial), by rw [hU]; exact ((hZ.kept hS.2.1).narrow hf9).moved hW.alike, hN.warm hW⟩⟩ rfl rfl hl.1 rfl (lv_room (Nat.le_of_ble_eq_true rfl)) dX0_drawByLists_262 ⟨(Nat.zero_le _), (Nat.zero_le _)⟩) hS (fun q _ h => hf9 q h) hf9 (fun u t H locs ht hvm hw hB hz1 hk1 hS => ?_)
                obtain ⟨hP, hK9, hD9⟩ := hB
                rw [ht] at hP
                have hD := hD9.weaken (fun _ q _ h => hf9 q.1 h)
                obtain rfl := Option.some.inj hF
                exact W.vret hx hb hr (fun t ht hW => ⟨⟨(), rfl, trivial, ⟨by rw [ht]; exact hP, va_K.moved hW.alike hK, hD⟩⟩, hS.F ht⟩) hS.2.2 dX0_drawByLists_265
              clear hF
              refine itr_rule (fun (s17 : Int32 × DD) => ∀ (H : Heap) (locs : List Loc) (ls : Array Slot), va_P D classes (wld ct ad G s17.2) H → va_D A (wld ct ad G s17.2) → va_S A s.heap H locs → lv_has ls 9 [(6, .int s17.1), (5, .int y3.1), (4, .int y2.1), (0, .ref (ad a)), (1, .int p0), (2, .int p1), (3, .int p2)] → W p l e (headSpec wuX0_drawByLists ({ frames := 5, cells := 0, slots := 0, locals := 134 })).room s m ([.ref (ad a), .int p0, .int p1, .int p2] : List Value).toArray below meth c H locs 0 0 (MQ below (va_Qv (fun (_ : Unit) => True) (fun _ t => kE D ct ad G A y t) A) ([.ref (ad a), .int p0, .int p1, .int p2] : List Value).toArray s 0 0 A) (F0 m 151 ls [])) ?_ _ _ hy16 _ _ _ hP hD hS (lv_sub hl [0, 1, 2, 3, 4, 5, 6] rfl)
              rintro s17 ⟨z21, hF, hwz21⟩ H locs ls hP hD hS hl
              try dsimp only at hF
              refine lv_iload hx hb dX0_drawByLists_151 (lv_at hl 0 rfl) ?_
              refine lv_iconst (v := (2 : Int32)) hx hb dX0_drawByLists_153 (by decide) ?_
              refine lv_icmp_ge (tgt := 253) hx hb dX0_drawByLists_154 (by decide) (fun c22 => ?_) (fun c22 => ?_)
              · rw [if_pos c22] at hF
                obtain rfl := Option.some.inj hF
                subst hwz21
                exact K16 _ _ _ hP hD hS (lv_sub hl [0, 1, 2, 3, 4, 5, 6] rfl)
              · rw [if_neg c22] at hF
                refine lv_aload_n hx hb dX0_drawByLists_157 rfl (lv_at hl 3 rfl) ?_
                refine va_get (D := D) (ci := 0) (v := va_re ad (s17.2.2 a 3)) (C := RX0) (T := TX0) (N := 21) hx hb hts (mus hf_X0) hown hK hP a (wld_o ct ad G s17.2 hc hk (by decide)) rfl 3 (by decide) (hts (.fieldLink RX0 36 "VideoSuite$Coder" "work" "LVideoSuite$Work;") (mu mw_817)) (fun _ h9 => h9) rfl dX0_drawByLists_158 ?_
                obtain ⟨b23, ho23, hc23, hk23, hF⟩ := dr_some hF
                refine W_st (st' := [.ref (ad b23)]) (by rw [va_some ho23]) ?_
                refine va_get (D := D) (ci := 9) (v := va_re ad (s17.2.2 b23 1)) (C := RX9) (T := TX9) (N := 20) hx hb hts (mus hf_X9) hown hK hP b23 (wld_o ct ad G s17.2 hc23 hk23 (by decide)) rfl 1 (by decide) (hts (.fieldLink RX0 81 "VideoSuite$Work" "head" "LVideoSuite$Header;") (mu mw_425)) (fun _ h9 => h9) rfl dX0_drawByLists_161 ?_
                obtain ⟨b24, ho24, hc24, hk24, hF⟩ := dr_some hF
                refine W_st (st' := [.ref (ad b24)]) (by rw [va_some ho24]) ?_
                refine va_get (D := D) (ci := 3) (v := va_re ad (s17.2.2 b24 0)) (C := RX3) (T := TX3) (N := 4) hx hb hts (mus hf_X3) hown hK hP b24 (wld_o ct ad G s17.2 hc24 hk24 (by decide)) rfl 0 (by decide) (hts (.fieldLink RX0 252 "VideoSuite$Header" "v" "[I") (mu mw_620)) (fun _ h9 => h9) rfl dX0_drawByLists_164 ?_
                refine lv_bipush (v := (9 : Int32)) hx hb dX0_drawByLists_167 (by decide) ?_
                refine lv_iload hx hb dX0_drawByLists_169 (lv_at hl 0 rfl) ?_
                refine lv_iadd hx hb dX0_drawByLists_171 ?_
                obtain ⟨x25, ex25, hF⟩ := ltt_some hF
                refine lv_topi (fun zx25 ezx25 => ?_)
                obtain rfl : x25 = zx25 := ex25.trans ezx25.symm
                obtain ⟨b26, ho26, hc26, hk26, hF⟩ := dr_some hF
                refine W_st (st' := [.int x25, .ref (ad b26)]) (by rw [va_some ho26]) ?_
                obtain ⟨hvc, hF⟩ := chk_some hF
                refine va_iald hx hb hK hP b26 1 (wld_i ct ad G s17.2 hc26 hk26) rfl hvc dX0_drawByLists_172 ?_
                obtain ⟨x27, ex27, hF⟩ := ltt_some hF
                refine lv_topi (fun zx27 ezx27 => ?_)
                obtain rfl : x27 = zx27 := ex27.trans ezx27.symm
                refine lv_istore (lv' := [(7, .int x27), (6, .int s17.1), (5, .int y3.1), (4, .int y2.1), (0, .ref (ad a)), (1, .int p0), (2, .int p1), (3, .int p2)]) hx hb dX0_drawByLists_173 hl (by decide) rfl (fun ls hl => ?_)
                refine lv_iconst (v := (0 : Int32)) hx hb dX0_drawByLists_175 (by decide) ?_
                refine lv_istore (lv' := [(8, .int (0 : Int32)), (7, .int x27), (6, .int s17.1), (5, .int y3.1), (4, .int y2.1), (0, .ref (ad a)), (1, .int p0), (2, .int p1), (3, .int p2)]) hx hb dX0_drawByLists_176 hl (by decide) rfl (fun ls hl => ?_)
                obtain ⟨y28, hy28, hF⟩ := bnd_some hF
                have K28 : ∀ (H : Heap) (locs : List Loc) (ls : Array Slot), va_P D classes (wld ct ad G y28.2) H → va_D A (wld ct ad G y28.2) → va_S A s.heap H locs → lv_has ls 9 [(8, .int y28.1), (7, .int x27), (6, .int s17.1), (5, .int y3.1), (4, .int y2.1), (0, .ref (ad a)), (1, .int p0), (2, .int p1), (3, .int p2)] → W p l e (headSpec wuX0_drawByLists ({ frames := 5, cells := 0, slots := 0, locals := 134 })).room s m ([.ref (ad a), .int p0, .int p1, .int p2] : List Value).toArray below meth c H locs 0 0 (MQ below (va_Qv (fun (_ : Unit) => True) (fun _ t => kE D ct ad G A y t) A) ([.ref (ad a), .int p0, .int p1, .int p2] : List Value).toArray s 0 0 A) (F0 m 247 ls []) := by
                  intro H locs ls hP hD hS hl
                  obtain ⟨x31, ex31, hF⟩ := ltt_some hF
                  refine lv_iinc (v := x31) (lv' := [(6, .int x31), (8, .int y28.1), (7, .int x27), (5, .int y3.1), (4, .int y2.1), (0, .ref (ad a)), (1, .int p0), (2, .int p1), (3, .int p2)]) hx hb dX0_drawByLists_247 hl (k := 2) rfl (by rw [ex31]; rfl) (by decide) rfl (fun ls hl => ?_)
                  refine lv_goto (tgt := 151) hx hb dX0_drawByLists_250 (by decide) ?_
                  obtain rfl := Option.some.inj hF
                  exact hwz21 _ _ _ hP hD hS (lv_sub hl [0, 3, 4, 5, 6, 7, 8] rfl)
                clear hF
                refine itr_rule (fun (s29 : Int32 × DD) => ∀ (H : Heap) (locs : List Loc) (ls : Array Slot), va_P D classes (wld ct ad G s29.2) H → va_D A (wld ct ad G s29.2) → va_S A s.heap H locs → lv_has ls 9 [(8, .int s29.1), (7, .int x27), (6, .int s17.1), (5, .int y3.1), (4, .int y2.1), (0, .ref (ad a)), (1, .int p0), (2, .int p1), (3, .int p2)] → W p l e (headSpec wuX0_drawByLists ({ frames := 5, cells := 0, slots := 0, locals := 134 })).room s m ([.ref (ad a), .int p0, .int p1, .int p2] : List Value).toArray below meth c H locs 0 0 (MQ below (va_Qv (fun (_ : Unit) => True) (fun _ t => kE D ct ad G A y t) A) ([.ref (ad a), .int p0, .int p1, .int p2] : List Value).toArray s 0 0 A) (F0 m 178 ls [])) ?_ _ _ hy28 _ _ _ hP hD hS (lv_sub hl [0, 1, 2, 3, 4, 5, 6, 7, 8] rfl)
                rintro s29 ⟨z32, hF, hwz32⟩ H locs ls hP hD hS hl
                try dsimp only at hF
                refine lv_iload hx hb dX0_drawByLists_178 (lv_at hl 0 rfl) ?_
                refine lv_aload_n hx hb dX0_drawByLists_180 rfl (lv_at hl 5 rfl) ?_
                refine va_get (D := D) (ci := 0) (v := va_re ad (s29.2.2 a 3)) (C := RX0) (T := TX0) (N := 21) hx hb hts (mus hf_X0) hown hK hP a (wld_o ct ad G s29.2 hc hk (by decide)) rfl 3 (by decide) (hts (.fieldLink RX0 36 "VideoSuite$Coder" "work" "LVideoSuite$Work;") (mu mw_817)) (fun _ h9 => h9) rfl dX0_drawByLists_181 ?_
                obtain ⟨b33, ho33, hc33, hk33, hF⟩ := dr_some hF
                refine W_st (st' := [.ref (ad b33), .int s29.1]) (by rw [va_some ho33]) ?_
                refine va_get (D := D) (ci := 9) (v := .int (s29.2.1 b33 16)) (C := RX9) (T := TX9) (N := 20) hx hb hts (mus hf_X9) hown hK hP b33 (wld_o ct ad G s29.2 hc33 hk33 (by decide)) rfl 16 (by decide) (hts (.fieldLink RX0 387 "VideoSuite$Work" "groups" "I") (mu mw_477)) (fun _ h9 => h9) rfl dX0_drawByLists_184 ?_
                obtain ⟨x34, ex34, hF⟩ := ltt_some hF
                refine lv_topi (fun zx34 ezx34 => ?_)
                obtain rfl : x34 = zx34 := ex34.trans ezx34.symm
                refine lv_icmp_ge (tgt := 247) hx hb dX0_drawByLists_187 (by decide) (fun c35 => ?_) (fun c35 => ?_)
                · rw [if_pos c35] at hF
                  obtain rfl := Option.some.inj hF
                  subst hwz32
                  exact K28 _ _ _ hP hD hS (lv_sub hl [0, 1, 2, 3, 4, 5, 6, 7, 8] rfl)
                · rw [if_neg c35] at hF
                  refine lv_aload_n hx hb dX0_drawByLists_190 rfl (lv_at hl 5 rfl) ?_
                  refine va_get (D := D) (ci := 0) (v := va_re ad (s29.2.2 a 3)) (C := RX0) (T := TX0) (N := 21) hx hb hts (mus hf_X0) hown hK hP a (wld_o ct ad G s29.2 hc hk (by decide)) rfl 3 (by decide) (hts (.fieldLink RX0 36 "VideoSuite$Coder" "work" "LVideoSuite$Work;") (mu mw_817)) (fun _ h9 => h9) rfl dX0_drawByLists_191 ?_
                  refine W_st (st' := [.ref (ad b33)]) (by rw [va_some ho33]) ?_
                  refine va_get (D := D) (ci := 9) (v := va_re ad (s29.2.2 b33 15)) (C := RX9) (T := TX9) (N := 20) hx hb hts (mus hf_X9) hown hK hP b33 (wld_o ct ad G s29.2 hc33 hk33 (by decide)) rfl 15 (by decide) (hts (.fieldLink RX0 390 "VideoSuite$Work" "group" "[I") (mu mw_474)) (fun _ h9 => h9) rfl dX0_drawByLists_194 ?_
                  refine lv_iconst (v := (4 : Int32)) hx hb dX0_drawByLists_197 (by decide) ?_
                  refine lv_iload hx hb dX0_drawByLists_198 (lv_at hl 0 rfl) ?_
                  refine lv_imul hx hb dX0_drawByLists_200 ?_
                  obtain ⟨x36, ex36, hF⟩ := ltt_some hF
                  refine lv_topi (fun zx36 ezx36 => ?_)
                  obtain rfl : x36 = zx36 := ex36.trans ezx36.symm
                  refine lv_iconst (v := (3 : Int32)) hx hb dX0_drawByLists_201 (by decide) ?_
                  refine lv_iadd hx hb dX0_drawByLists_202 ?_
                  obtain ⟨x37, ex37, hF⟩ := ltt_some hF
                  refine lv_topi (fun zx37 ezx37 => ?_)
                  obtain rfl : x37 = zx37 := ex37.trans ezx37.symm
                  obtain ⟨b38, ho38, hc38, hk38, hF⟩ := dr_some hF
                  refine W_st (st' := [.int x37, .ref (ad b38)]) (by rw [va_some ho38]) ?_
                  obtain ⟨hvc, hF⟩ := chk_some hF
                  refine va_iald hx hb hK hP b38 1 (wld_i ct ad G s29.2 hc38 hk38) rfl hvc dX0_drawByLists_203 ?_
                  obtain ⟨x39, ex39, hF⟩ := ltt_some hF
                  refine lv_topi (fun zx39 ezx39 => ?_)
                  obtain rfl : x39 = zx39 := ex39.trans ezx39.symm
                  refine lv_iload hx hb dX0_drawByLists_204 (lv_at hl 2 rfl) ?_
                  refine lv_ishr hx hb dX0_drawByLists_206 ?_
                  obtain ⟨x40, ex40, hF⟩ := ltt_some hF
                  refine lv_topi (fun zx40 ezx40 => ?_)
                  obtain rfl : x40 = zx40 := ex40.trans ezx40.symm
                  refine lv_iconst (v := (1 : Int32)) hx hb dX0_drawByLists_207 (by decide) ?_
                  refine lv_iand hx hb dX0_drawByLists_208 ?_
                  obtain ⟨x41, ex41, hF⟩ := ltt_some hF
                  refine lv_topi (fun zx41 ezx41 => ?_)
                  obtain rfl : x41 = zx41 := ex41.trans ezx41.symm
                  refine lv_iconst (v := (1 : Int32)) hx hb dX0_drawByLists_209 (by decide) ?_
                  obtain ⟨y42, hy42, hF⟩ := bnd_some hF
                  have J42 : ∀ (H : Heap) (locs : List Loc) (ls : Array Slot), va_P D classes (wld ct ad G y42) H → va_D A (wld ct ad G y42) → va_S A s.heap H locs → lv_has ls 9 [(8, .int s29.1), (7, .int x27), (6, .int s17.1), (5, .int y3.1), (4, .int y2.1), (0, .ref (ad a)), (1, .int p0), (2, .int p1), (3, .int p2)] → W p l e (headSpec wuX0_drawByLists ({ frames := 5, cells := 0, slots := 0, locals := 134 })).room s m ([.ref (ad a), .int p0, .int p1, .int p2] : List Value).toArray below meth c H locs 0 0 (MQ below (va_Qv (fun (_ : Unit) => True) (fun _ t => kE D ct ad G A y t) A) ([.ref (ad a), .int p0, .int p1, .int p2] : List Value).toArray s 0 0 A) (F0 m 241 ls []) := by
                    intro H locs ls hP hD hS hl
                    obtain ⟨x43, ex43, hF⟩ := ltt_some hF
                    refine lv_iinc (v := x43) (lv' := [(8, .int x43), (7, .int x27), (6, .int s17.1), (5, .int y3.1), (4, .int y2.1), (0, .ref (ad a)), (1, .int p0), (2, .int p1), (3, .int p2)]) hx hb dX0_drawByLists_241 hl (k := 0) rfl (by rw [ex43]; rfl) (by decide) rfl (fun ls hl => ?_)
                    refine lv_goto (tgt := 178) hx hb dX0_drawByLists_244 (by decide) ?_
                    obtain rfl := Option.some.inj hF
                    exact hwz32 _ _ _ hP hD hS (lv_sub hl [0, 1, 2, 3, 4, 5, 6, 7, 8] rfl)
                  clear hF
                  have hF := hy42
                  clear hy42
                  refine lv_icmp_ne (tgt := 241) hx hb dX0_drawByLists_210 (by decide) (fun c44 => ?_) (fun c44 => ?_)
                  · rw [if_neg c44] at hF
                    obtain rfl := Option.some.inj hF
                    exact J42 _ _ _ hP hD hS (lv_sub hl [0, 1, 2, 3, 4, 5, 6, 7, 8] rfl)
                  · rw [if_pos c44] at hF
                    refine lv_aload_n hx hb dX0_drawByLists_213 rfl (lv_at hl 5 rfl) ?_
                    refine va_get (D := D) (ci := 0) (v := va_re ad (s29.2.2 a 3)) (C := RX0) (T := TX0) (N := 21) hx hb hts (mus hf_X0) hown hK hP a (wld_o ct ad G s29.2 hc hk (by decide)) rfl 3 (by decide) (hts (.fieldLink RX0 36 "VideoSuite$Coder" "work" "LVideoSuite$Work;") (mu mw_817)) (fun _ h9 => h9) rfl dX0_drawByLists_214 ?_
                    refine lv_iload_n hx hb dX0_drawByLists_217 rfl (lv_at hl 6 rfl) ?_
                    refine lv_iload hx hb dX0_drawByLists_218 (lv_at hl 2 rfl) ?_
                    refine lv_iload hx hb dX0_drawByLists_220 (lv_at hl 0 rfl) ?_
                    refine lv_iload hx hb dX0_drawByLists_222 (lv_at hl 1 rfl) ?_
                    refine lv_iconst (v := (1 : Int32)) hx hb dX0_drawByLists_224 (by decide) ?_
                    obtain ⟨y45, hy45, hF⟩ := bnd_some hF
                    have J45 : ∀ (H : Heap) (locs : List Loc) (ls : Array Slot), va_P D classes (wld ct ad G y45.2) H → va_D A (wld ct ad G y45.2) → va_S A s.heap H locs → lv_has ls 9 [(8, .int s29.1), (7, .int x27), (6, .int s17.1), (5, .int y3.1), (4, .int y2.1), (0, .ref (ad a)), (1, .int p0), (2, .int p1), (3, .int p2)] → W p l e (headSpec wuX0_drawByLists ({ frames := 5, cells := 0, slots := 0, locals := 134 })).room s m ([.ref (ad a), .int p0, .int p1, .int p2] : List Value).toArray below meth c H locs 0 0 (MQ below (va_Qv (fun (_ : Unit) => True) (fun _ t => kE D ct ad G A y t) A) ([.ref (ad a), .int p0, .int p1, .int p2] : List Value).toArray s 0 0 A) (F0 m 238 ls [.int y45.1, .int s29.1, .int s17.1, .int p0, va_re ad (s29.2.2 a 3)]) := by
                      intro H locs ls hP hD hS hl
                      refine W_st (st' := [.int y45.1, .int s29.1, .int s17.1, .int p0, .ref (ad b33)]) (by rw [va_some ho33]) ?_
                      obtain ⟨y46, hy46, hF⟩ := bnd_some hF
                      have hf9 := wA_in hD hA9 hS
                      refine va_callv (va_runV (As := [.int p0, .int s17.1, .int s29.1, .int y45.1]) (rest := []) ⟨hx, hb, hml, hown, hts⟩ (kX9_setReference l D ct ad Z G y45.2 H.size b33 p0 s17.1 s29.1 y45.1 y46 hc33 hk33 hy46) (cwV 4 hts gX0_drawByLists_X9_setReference rfl rfl rfl (by decide +kernel) ⟨Nat.le_of_ble_eq_true rfl, Nat.le_of_ble_eq_true rfl⟩) ⟨fun a U g mk q => by obtain ⟨q0, q1, qP, qK, qD, qZ, qN⟩ := q; exact ⟨q0, q1, qP, va_K.moved (u := U) (U := U.calling g mk a) (Vm.Alike.refl U.vm) qK, qD, sF.moved (u := U) (U := U.calling g mk a) (Vm.Alike.refl U.vm) qZ, nF.same rfl qN⟩, va_recv hK hP (ci := 9) (q0 := b33) rfl (wld_o ct ad G y45.2 hc33 hk33 (by decide)), fun U hU hW => ⟨rfl, by rw [hU], by rw [hU]; exact hP, va_K.moved hW.alike hK, hD.weaken (fun _ _ _ _ => trivial), by rw [hU]; exact ((hZ.kept hS.2.1).narrow hf9).moved hW.alike, hN.warm hW⟩⟩ rfl rfl hl.1 rfl (lv_room (Nat.le_of_ble_eq_true rfl)) dX0_drawByLists_238 ⟨(Nat.zero_le _), (Nat.zero_le _)⟩) hS (fun q _ h => hf9 q h) hf9 (fun u t H locs ht hvm hw hB hz1 hk1 hS => ?_)
                      obtain ⟨hP, hK9, hD9⟩ := hB
                      rw [ht] at hP
                      have hD := hD9.weaken (fun _ q _ h => hf9 q.1 h)
                      obtain rfl := Option.some.inj hF
                      exact J42 _ _ _ hP hD hS (lv_sub hl [0, 1, 2, 3, 4, 5, 6, 7, 8] rfl)
                    clear hF
                    have hF := hy45
                    clear hy45
                    refine lv_icmp_le (tgt := 237) hx hb dX0_drawByLists_225 (by decide) (fun c47 => ?_) (fun c47 => ?_)
                    · rw [if_pos c47] at hF
                      refine lv_iconst (v := (0 : Int32)) hx hb dX0_drawByLists_237 (by decide) ?_
                      obtain rfl := Option.some.inj hF
                      exact J45 _ _ _ hP hD hS (lv_sub hl [0, 1, 2, 3, 4, 5, 6, 7, 8] rfl)
                    · rw [if_neg c47] at hF
                      refine lv_aload_n hx hb dX0_drawByLists_228 rfl (lv_at hl 5 rfl) ?_
                      refine lv_iload hx hb dX0_drawByLists_229 (lv_at hl 1 rfl) ?_
                      obtain ⟨y48, hy48, hF⟩ := bnd_some hF
                      have hf9 := wA_in hD hA9 hS
                      refine va_calli (va_runV (As := [.int x27]) (rest := [.int s29.1, .int s17.1, .int p0, va_re ad (s29.2.2 a 3)]) ⟨hx, hb, hml, hown, hts⟩ (kX0_draw l D ct ad Z G s29.2 H.size a x27 y48 hc hk hy48) (cwV 1 hts gX0_drawByLists_X0_draw rfl rfl rfl (by decide +kernel) ⟨Nat.le_of_ble_eq_true rfl, Nat.le_of_ble_eq_true rfl⟩) ⟨fun a U g mk q => by obtain ⟨q0, q1, qP, qK, qD, qZ, qN⟩ := q; exact ⟨q0, q1, qP, va_K.moved (u := U) (U := U.calling g mk a) (Vm.Alike.refl U.vm) qK, qD, sF.moved (u := U) (U := U.calling g mk a) (Vm.Alike.refl U.vm) qZ, nF.same rfl qN⟩, va_recv hK hP (ci := 0) (q0 := a) rfl (wld_o ct ad G s29.2 hc hk (by decide)), fun U hU hW => ⟨rfl, by rw [hU], by rw [hU]; exact hP, va_K.moved hW.alike hK, hD.weaken (fun _ _ _ _ => trivial), by rw [hU]; exact ((hZ.kept hS.2.1).narrow hf9).moved hW.alike, hN.warm hW⟩⟩ rfl rfl hl.1 rfl (lv_room (by simp only [List.map, va_re_cat]; exact Nat.le_of_ble_eq_true rfl)) dX0_drawByLists_231 ⟨(Nat.zero_le _), (Nat.zero_le _)⟩) hS (fun q _ h => hf9 q h) hf9 (fun r u t H locs ht hvm hw hB hz1 hk1 hS => ?_)
                      obtain ⟨hP, hK9, hD9⟩ := hB
                      rw [ht] at hP
                      try dsimp only at hw
                      subst hw
                      have hD := hD9.weaken (fun _ q _ h => hf9 q.1 h)
                      refine lv_goto (tgt := 238) hx hb dX0_drawByLists_234 (by decide) ?_
                      obtain rfl := Option.some.inj hF
                      exact J45 _ _ _ hP hD hS (lv_sub hl [0, 1, 2, 3, 4, 5, 6, 7, 8] rfl)
            · rw [if_neg c13] at hF
              refine lv_aload_n hx hb dX0_drawByLists_129 rfl (lv_at hl 2 rfl) ?_
              refine va_get (D := D) (ci := 0) (v := va_re ad (M11.2 a 3)) (C := RX0) (T := TX0) (N := 21) hx hb hts (mus hf_X0) hown hK hP a (wld_o ct ad G M11 hc hk (by decide)) rfl 3 (by decide) (hts (.fieldLink RX0 36 "VideoSuite$Coder" "work" "LVideoSuite$Work;") (mu mw_817)) (fun _ h9 => h9) rfl dX0_drawByLists_130 ?_
              refine lv_iload_n hx hb dX0_drawByLists_133 rfl (lv_at hl 3 rfl) ?_
              obtain ⟨b49, ho49, hc49, hk49, hF⟩ := dr_some hF
              refine W_st (st' := [.int p0, .ref (ad b49)]) (by rw [va_some ho49]) ?_
              obtain ⟨y50, hy50, hF⟩ := bnd_some hF
              have hf9 := wA_in hD hA9 hS
              refine va_callv (va_runV (As := [.int p0]) (rest := []) ⟨hx, hb, hml, hown, hts⟩ (kX9_skip l D ct ad Z G M11 H.size b49 p0 y50 hc49 hk49 hy50) (cwV 1 hts gX0_drawByLists_X9_skip rfl rfl rfl (by decide +kernel) ⟨Nat.le_of_ble_eq_true rfl, Nat.le_of_ble_eq_true rfl⟩) ⟨fun a U g mk q => by obtain ⟨q0, q1, qP, qK, qD, qZ, qN⟩ := q; exact ⟨q0, q1, qP, va_K.moved (u := U) (U := U.calling g mk a) (Vm.Alike.refl U.vm) qK, qD, sF.moved (u := U) (U := U.calling g mk a) (Vm.Alike.refl U.vm) qZ, nF.same rfl qN⟩, va_recv hK hP (ci := 9) (q0 := b49) rfl (wld_o ct ad G M11 hc49 hk49 (by decide)), fun U hU hW => ⟨rfl, by rw [hU], by rw [hU]; exact hP, va_K.moved hW.alike hK, hD.weaken (fun _ _ _ _ => trivial), by rw [hU]; exact ((hZ.kept hS.2.1).narrow hf9).moved hW.alike, hN.warm hW⟩⟩ rfl rfl hl.1 rfl (lv_room (Nat.le_of_ble_eq_true rfl)) dX0_drawByLists_134 ⟨(Nat.zero_le _), (Nat.zero_le _)⟩) hS (fun q _ h => hf9 q h) hf9 (fun u t H locs ht hvm hw hB hz1 hk1 hS => ?_)
              obtain ⟨hP, hK9, hD9⟩ := hB
              rw [ht] at hP
              have hD := hD9.weaken (fun _ q _ h => hf9 q.1 h)
              obtain rfl := Option.some.inj hF
              exact W.vret hx hb hr (fun t ht hW => ⟨⟨(), rfl, trivial, ⟨by rw [ht]; exact hP, va_K.moved hW.alike hK, hD⟩⟩, hS.F ht⟩) hS.2.2 dX0_drawByLists_137
          · rw [if_pos c12] at hF
            obtain rfl := Option.some.inj hF
            exact W.vret hx hb hr (fun t ht hW => ⟨⟨(), rfl, trivial, ⟨by rw [ht]; exact hP, va_K.moved hW.alike hK, hD⟩⟩, hS.F ht⟩) hS.2.2 dX0_drawByLists_123
        clear hF
        have hF := hy6
        clear hy6
        refine lv_if_eq (tgt := 100) hx hb dX0_drawByLists_86 (by decide) (fun c51 => ?_) (fun c51 => ?_)
        · rw [if_pos c51] at hF
          obtain rfl := Option.some.inj hF
          exact J6 _ _ _ hP hD hS (lv_sub hl [0, 1, 2, 3, 4, 5] rfl)
        · rw [if_neg c51] at hF
          refine lv_aload_n hx hb dX0_drawByLists_89 rfl (lv_at hl 2 rfl) ?_
          refine va_get (D := D) (ci := 0) (v := va_re ad (y5.2 a 3)) (C := RX0) (T := TX0) (N := 21) hx hb hts (mus hf_X0) hown hK hP a (wld_o ct ad G y5 hc hk (by decide)) rfl 3 (by decide) (hts (.fieldLink RX0 36 "VideoSuite$Coder" "work" "LVideoSuite$Work;") (mu mw_817)) (fun _ h9 => h9) rfl dX0_drawByLists_90 ?_
          refine lv_iload_n hx hb dX0_drawByLists_93 rfl (lv_at hl 3 rfl) ?_
          refine lv_iload hx hb dX0_drawByLists_94 (lv_at hl 0 rfl) ?_
          obtain ⟨b52, ho52, hc52, hk52, hF⟩ := dr_some hF
          refine W_st (st' := [.int y3.1, .int p0, .ref (ad b52)]) (by rw [va_some ho52]) ?_
          obtain ⟨y53, hy53, hF⟩ := bnd_some hF
          have hf9 := wA_in hD hA9 hS
          refine va_calli (va_runV (As := [.int p0, .int y3.1]) (rest := []) ⟨hx, hb, hml, hown, hts⟩ (kX9_direct l D ct ad Z G y5 H.size b52 p0 y3.1 y53 hc52 hk52 hy53) (cwV 2 hts gX0_drawByLists_X9_direct rfl rfl rfl (by decide +kernel) ⟨Nat.le_of_ble_eq_true rfl, Nat.le_of_ble_eq_true rfl⟩) ⟨fun a U g mk q => by obtain ⟨q0, q1, qP, qK, qD, qZ, qN⟩ := q; exact ⟨q0, q1, qP, va_K.moved (u := U) (U := U.calling g mk a) (Vm.Alike.refl U.vm) qK, qD, sF.moved (u := U) (U := U.calling g mk a) (Vm.Alike.refl U.vm) qZ, nF.same rfl qN⟩, va_recv hK hP (ci := 9) (q0 := b52) rfl (wld_o ct ad G y5 hc52 hk52 (by decide)), fun U hU hW => ⟨rfl, by rw [hU], by rw [hU]; exact hP, va_K.moved hW.alike hK, hD.weaken (fun _ _ _ _ => trivial), by rw [hU]; exact ((hZ.kept hS.2.1).narrow hf9).moved hW.alike, hN.warm hW⟩⟩ rfl rfl hl.1 rfl (lv_room (Nat.le_of_ble_eq_true rfl)) dX0_drawByLists_96 ⟨(Nat.zero_le _), (Nat.zero_le _)⟩) hS (fun q _ h => hf9 q h) hf9 (fun r u t H locs ht hvm hw hB hz1 hk1 hS => ?_)
          obtain ⟨hP, hK9, hD9⟩ := hB
          rw [ht] at hP
          try dsimp only at hw
          subst hw
          have hD := hD9.weaken (fun _ q _ h => hf9 q.1 h)
          refine lv_pop hx hb dX0_drawByLists_99 rfl ?_
          obtain rfl := Option.some.inj hF
          exact J6 _ _ _ hP hD hS (lv_sub hl [0, 1, 2, 3, 4, 5] rfl)
      clear hF
      have hF := hy3
      clear hy3
      refine lv_if_ne (tgt := 61) hx hb dX0_drawByLists_49 (by decide) (fun c54 => ?_) (fun c54 => ?_)
      · rw [if_neg c54] at hF
        refine lv_iload hx hb dX0_drawByLists_61 (lv_at hl 1 rfl) ?_
        refine lv_bipush (v := (22 : Int32)) hx hb dX0_drawByLists_63 (by decide) ?_
        obtain ⟨y55, hy55, hF⟩ := bnd_some hF
        have J55 : ∀ (H : Heap) (locs : List Loc) (ls : Array Slot), va_P D classes (wld ct ad G y55.2) H → va_D A (wld ct ad G y55.2) → va_S A s.heap H locs → lv_has ls 9 [(5, .int y55.1), (4, .int y2.1), (0, .ref (ad a)), (1, .int p0), (2, .int p1), (3, .int p2)] → W p l e (headSpec wuX0_drawByLists ({ frames := 5, cells := 0, slots := 0, locals := 134 })).room s m ([.ref (ad a), .int p0, .int p1, .int p2] : List Value).toArray below meth c H locs 0 0 (MQ below (va_Qv (fun (_ : Unit) => True) (fun _ t => kE D ct ad G A y t) A) ([.ref (ad a), .int p0, .int p1, .int p2] : List Value).toArray s 0 0 A) (F0 m 76 ls []) := by
          intro H locs ls hP hD hS hl
          obtain rfl := Option.some.inj hF
          exact J3 _ _ _ hP hD hS (lv_sub hl [0, 1, 2, 3, 4, 5] rfl)
        clear hF
        have hF := hy55
        clear hy55
        refine lv_icmp_ne (tgt := 76) hx hb dX0_drawByLists_65 (by decide) (fun c56 => ?_) (fun c56 => ?_)
        · rw [if_neg c56] at hF
          obtain rfl := Option.some.inj hF
          exact J55 _ _ _ hP hD hS (lv_sub hl [0, 1, 2, 3, 4, 5] rfl)
        · rw [if_pos c56] at hF
          refine lv_aload_n hx hb dX0_drawByLists_68 rfl (lv_at hl 2 rfl) ?_
          refine lv_iload_n hx hb dX0_drawByLists_69 rfl (lv_at hl 3 rfl) ?_
          refine lv_iload_n hx hb dX0_drawByLists_70 rfl (lv_at hl 4 rfl) ?_
          obtain ⟨y57, hy57, hF⟩ := bnd_some hF
          have hf9 := wA_in hD hA9 hS
          refine va_calli (va_runV (As := [.int p0, .int p1]) (rest := []) ⟨hx, hb, hml, hown, hts⟩ (kX0_drawSubs l D ct ad Z G y2.2.2 H.size a p0 p1 y57 hc hk hy57) (cwV 2 hts gX0_drawByLists_X0_drawSubs rfl rfl rfl (by decide +kernel) ⟨Nat.le_of_ble_eq_true rfl, Nat.le_of_ble_eq_true rfl⟩) ⟨fun a U g mk q => by obtain ⟨q0, q1, qP, qK, qD, qZ, qN⟩ := q; exact ⟨q0, q1, qP, va_K.moved (u := U) (U := U.calling g mk a) (Vm.Alike.refl U.vm) qK, qD, sF.moved (u := U) (U := U.calling g mk a) (Vm.Alike.refl U.vm) qZ, nF.same rfl qN⟩, va_recv hK hP (ci := 0) (q0 := a) rfl (wld_o ct ad G y2.2.2 hc hk (by decide)), fun U hU hW => ⟨rfl, by rw [hU], by rw [hU]; exact hP, va_K.moved hW.alike hK, hD.weaken (fun _ _ _ _ => trivial), by rw [hU]; exact ((hZ.kept hS.2.1).narrow hf9).moved hW.alike, hN.warm hW⟩⟩ rfl rfl hl.1 rfl (lv_room (Nat.le_of_ble_eq_true rfl)) dX0_drawByLists_71 ⟨(Nat.zero_le _), (Nat.zero_le _)⟩) hS (fun q _ h => hf9 q h) hf9 (fun r u t H locs ht hvm hw hB hz1 hk1 hS => ?_)
          obtain ⟨hP, hK9, hD9⟩ := hB
          rw [ht] at hP
          try dsimp only at hw
          subst hw
          have hD := hD9.weaken (fun _ q _ h => hf9 q.1 h)
          refine lv_istore (lv' := [(5, .int y57.2), (4, .int y2.1), (0, .ref (ad a)), (1, .int p0), (2, .int p1), (3, .int p2)]) hx hb dX0_drawByLists_74 hl (by decide) rfl (fun ls hl => ?_)
          obtain rfl := Option.some.inj hF
          exact J55 _ _ _ hP hD hS (lv_sub hl [0, 1, 2, 3, 4, 5] rfl)
      · rw [if_pos c54] at hF
        refine lv_iload hx hb dX0_drawByLists_52 (lv_at hl 1 rfl) ?_
        refine lv_iconst (v := (3 : Int32)) hx hb dX0_drawByLists_54 (by decide) ?_
        obtain ⟨y58, hy58, hF⟩ := bnd_some hF
        have J58 : ∀ (H : Heap) (locs : List Loc) (ls : Array Slot), va_P D classes (wld ct ad G y58.2) H → va_D A (wld ct ad G y58.2) → va_S A s.heap H locs → lv_has ls 9 [(5, .int y58.1), (4, .int y2.1), (0, .ref (ad a)), (1, .int p0), (2, .int p1), (3, .int p2)] → W p l e (headSpec wuX0_drawByLists ({ frames := 5, cells := 0, slots := 0, locals := 134 })).room s m ([.ref (ad a), .int p0, .int p1, .int p2] : List Value).toArray below meth c H locs 0 0 (MQ below (va_Qv (fun (_ : Unit) => True) (fun _ t => kE D ct ad G A y t) A) ([.ref (ad a), .int p0, .int p1, .int p2] : List Value).toArray s 0 0 A) (F0 m 76 ls []) := by
          intro H locs ls hP hD hS hl
          obtain rfl := Option.some.inj hF
          exact J3 _ _ _ hP hD hS (lv_sub hl [0, 1, 2, 3, 4, 5] rfl)
        clear hF
        have hF := hy58
        clear hy58
        refine lv_icmp_ne (tgt := 76) hx hb dX0_drawByLists_55 (by decide) (fun c59 => ?_) (fun c59 => ?_)
        · rw [if_neg c59] at hF
          obtain rfl := Option.some.inj hF
          exact J58 _ _ _ hP hD hS (lv_sub hl [0, 1, 2, 3, 4, 5] rfl)
        · rw [if_pos c59] at hF
          refine lv_goto (tgt := 68) hx hb dX0_drawByLists_58 (by decide) ?_
          refine lv_aload_n hx hb dX0_drawByLists_68 rfl (lv_at hl 2 rfl) ?_
          refine lv_iload_n hx hb dX0_drawByLists_69 rfl (lv_at hl 3 rfl) ?_
          refine lv_iload_n hx hb dX0_drawByLists_70 rfl (lv_at hl 4 rfl) ?_
          obtain ⟨y60, hy60, hF⟩ := bnd_some hF
          have hf9 := wA_in hD hA9 hS
          refine va_calli (va_runV (As := [.int p0, .int p1]) (rest := []) ⟨hx, hb, hml, hown, hts⟩ (kX0_drawSubs l D ct ad Z G y2.2.2 H.size a p0 p1 y60 hc hk hy60) (cwV 2 hts gX0_drawByLists_X0_drawSubs rfl rfl rfl (by decide +kernel) ⟨Nat.le_of_ble_eq_true rfl, Nat.le_of_ble_eq_true rfl⟩) ⟨fun a U g mk q => by obtain ⟨q0, q1, qP, qK, qD, qZ, qN⟩ := q; exact ⟨q0, q1, qP, va_K.moved (u := U) (U := U.calling g mk a) (Vm.Alike.refl U.vm) qK, qD, sF.moved (u := U) (U := U.calling g mk a) (Vm.Alike.refl U.vm) qZ, nF.same rfl qN⟩, va_recv hK hP (ci := 0) (q0 := a) rfl (wld_o ct ad G y2.2.2 hc hk (by decide)), fun U hU hW => ⟨rfl, by rw [hU], by rw [hU]; exact hP, va_K.moved hW.alike hK, hD.weaken (fun _ _ _ _ => trivial), by rw [hU]; exact ((hZ.kept hS.2.1).narrow hf9).moved hW.alike, hN.warm hW⟩⟩ rfl rfl hl.1 rfl (lv_room (Nat.le_of_ble_eq_true rfl)) dX0_drawByLists_71 ⟨(Nat.zero_le _), (Nat.zero_le _)⟩) hS (fun q _ h => hf9 q h) hf9 (fun r u t H locs ht hvm hw hB hz1 hk1 hS => ?_)
          obtain ⟨hP, hK9, hD9⟩ := hB
          rw [ht] at hP
          try dsimp only at hw
          subst hw
          have hD := hD9.weaken (fun _ q _ h => hf9 q.1 h)
          refine lv_istore (lv' := [(5, .int y60.2), (4, .int y2.1), (0, .ref (ad a)), (1, .int p0), (2, .int p1), (3, .int p2)]) hx hb dX0_drawByLists_74 hl (by decide) rfl (fun ls hl => ?_)
          obtain rfl := Option.some.inj hF
          exact J58 _ _ _ hP hD hS (lv_sub hl [0, 1, 2, 3, 4, 5] rfl)
    clear hF
    have hF := hy2
    clear hy2
    refine lv_icmp_ne (tgt := 48) hx hb dX0_drawByLists_26 (by decide) (fun c61 => ?_) (fun c61 => ?_)
    · rw [if_neg c61] at hF
      obtain rfl := Option.some.inj hF
      exact J2 _ _ _ hP hD hS (lv_sub hl [0, 1, 2, 3, 4, 5] rfl)
    · rw [if_pos c61] at hF
      refine lv_aload_n hx hb dX0_drawByLists_29 rfl (lv_at hl 2 rfl) ?_
      refine va_get (D := D) (ci := 0) (v := va_re ad (M.2 a 3)) (C := RX0) (T := TX0) (N := 21) hx hb hts (mus hf_X0) hown hK hP a (wld_o ct ad G M hc hk (by decide)) rfl 3 (by decide) (hts (.fieldLink RX0 36 "VideoSuite$Coder" "work" "LVideoSuite$Work;") (mu mw_817)) (fun _ h9 => h9) rfl dX0_drawByLists_30 ?_
      refine lv_iload_n hx hb dX0_drawByLists_33 rfl (lv_at hl 3 rfl) ?_
      refine lv_bipush (v := (15 : Int32)) hx hb dX0_drawByLists_34 (by decide) ?_
      obtain ⟨b62, ho62, hc62, hk62, hF⟩ := dr_some hF
      refine W_st (st' := [.int (15 : Int32), .int p0, .ref (ad b62)]) (by rw [va_some ho62]) ?_
      obtain ⟨y63, hy63, hF⟩ := bnd_some hF
      have hf9 := wA_in hD hA9 hS
      refine va_calli (va_runV (As := [.int p0, .int (15 : Int32)]) (rest := []) ⟨hx, hb, hml, hown, hts⟩ (kX9_direct l D ct ad Z G M H.size b62 p0 ((15 : Int32)) y63 hc62 hk62 hy63) (cwV 2 hts gX0_drawByLists_X9_direct rfl rfl rfl (by decide +kernel) ⟨Nat.le_of_ble_eq_true rfl, Nat.le_of_ble_eq_true rfl⟩) ⟨fun a U g mk q => by obtain ⟨q0, q1, qP, qK, qD, qZ, qN⟩ := q; exact ⟨q0, q1, qP, va_K.moved (u := U) (U := U.calling g mk a) (Vm.Alike.refl U.vm) qK, qD, sF.moved (u := U) (U := U.calling g mk a) (Vm.Alike.refl U.vm) qZ, nF.same rfl qN⟩, va_recv hK hP (ci := 9) (q0 := b62) rfl (wld_o ct ad G M hc62 hk62 (by decide)), fun U hU hW => ⟨rfl, by rw [hU], by rw [hU]; exact hP, va_K.moved hW.alike hK, hD.weaken (fun _ _ _ _ => trivial), by rw [hU]; exact ((hZ.kept hS.2.1).narrow hf9).moved hW.alike, hN.warm hW⟩⟩ rfl rfl hl.1 rfl (lv_room (Nat.le_of_ble_eq_true rfl)) dX0_drawByLists_36 ⟨(Nat.zero_le _), (Nat.zero_le _)⟩) hS (fun q _ h => hf9 q h) hf9 (fun r u t H locs ht hvm hw hB hz1 hk1 hS => ?_)
      obtain ⟨hP, hK9, hD9⟩ := hB
      rw [ht] at hP
      try dsimp only at hw
      subst hw
      have hD := hD9.weaken (fun _ q _ h => hf9 q.1 h)
      obtain ⟨y64, hy64, hF⟩ := bnd_some hF
      have J64 : ∀ (H : Heap) (locs : List Loc) (ls : Array Slot), va_P D classes (wld ct ad G y63.1) H → va_D A (wld ct ad G y63.1) → va_S A s.heap H locs → lv_has ls 9 [(5, .int y64.2), (4, .int y64.1), (0, .ref (ad a)), (1, .int p0), (2, .int p1), (3, .int p2)] → W p l e (headSpec wuX0_drawByLists ({ frames := 5, cells := 0, slots := 0, locals := 134 })).room s m ([.ref (ad a), .int p0, .int p1, .int p2] : List Value).toArray below meth c H locs 0 0 (MQ below (va_Qv (fun (_ : Unit) => True) (fun _ t => kE D ct ad G A y t) A) ([.ref (ad a), .int p0, .int p1, .int p2] : List Value).toArray s 0 0 A) (F0 m 48 ls []) := by
        intro H locs ls hP hD hS hl
        obtain rfl := Option.some.inj hF
        exact J2 _ _ _ hP hD hS (lv_sub hl [0, 1, 2, 3, 4, 5] rfl)
      clear hF
      have hF := hy64
      clear hy64
      refine lv_if_ne (tgt := 48) hx hb dX0_drawByLists_39 (by decide) (fun c65 => ?_) (fun c65 => ?_)
      · rw [if_neg c65] at hF
        obtain rfl := Option.some.inj hF
        exact J64 _ _ _ hP hD hS (lv_sub hl [0, 1, 2, 3, 4, 5] rfl)
      · rw [if_pos c65] at hF
        refine lv_iconst (v := (1 : Int32)) hx hb dX0_drawByLists_42 (by decide) ?_
        refine lv_istore (lv' := [(4, .int (1 : Int32)), (5, .int y1), (0, .ref (ad a)), (1, .int p0), (2, .int p1), (3, .int p2)]) hx hb dX0_drawByLists_43 hl (by decide) rfl (fun ls hl => ?_)
        refine lv_iconst (v := (0 : Int32)) hx hb dX0_drawByLists_45 (by decide) ?_
        refine lv_istore (lv' := [(5, .int (0 : Int32)), (4, .int (1 : Int32)), (0, .ref (ad a)), (1, .int p0), (2, .int p1), (3, .int p2)]) hx hb dX0_drawByLists_46 hl (by decide) rfl (fun ls hl => ?_)
        obtain rfl := Option.some.inj hF
        exact J64 _ _ _ hP hD hS (lv_sub hl [0, 1, 2, 3, 4, 5] rfl)
  clear hF
  have hF := hy1
  clear hy1
  refine lv_icmp_ne (tgt := 19) hx hb dX0_drawByLists_5 (by decide) (fun c66 => ?_) (fun c66 => ?_)
  · rw [if_neg c66] at hF
    refine lv_iconst (v := (0 : Int32)) hx hb dX0_drawByLists_19 (by decide) ?_
    obtain rfl := Option.some.inj hF
    exact J1 _ _ _ hP hD hS (lv_sub hl [0, 1, 2, 3, 4] rfl)
  · rw [if_pos c66] at hF
    refine lv_iload hx hb dX0_drawByLists_8 (lv_at hl 0 rfl) ?_
    refine lv_iconst (v := (1 : Int32)) hx hb dX0_drawByLists_10 (by decide) ?_
    obtain ⟨y67, hy67, hF⟩ := bnd_some hF
    have J67 : ∀ (H : Heap) (locs : List Loc) (ls : Array Slot), va_P D classes (wld ct ad G M) H → va_D A (wld ct ad G M) → va_S A s.heap H locs → lv_has ls 9 [(4, .int p2), (0, .ref (ad a)), (1, .int p0), (2, .int p1), (3, .int p2)] → W p l e (headSpec wuX0_drawByLists ({ frames := 5, cells := 0, slots := 0, locals := 134 })).room s m ([.ref (ad a), .int p0, .int p1, .int p2] : List Value).toArray below meth c H locs 0 0 (MQ below (va_Qv (fun (_ : Unit) => True) (fun _ t => kE D ct ad G A y t) A) ([.ref (ad a), .int p0, .int p1, .int p2] : List Value).toArray s 0 0 A) (F0 m 20 ls [.int y67]) := by
      intro H locs ls hP hD hS hl
      obtain rfl := Option.some.inj hF
      exact J1 _ _ _ hP hD hS (lv_sub hl [0, 1, 2, 3, 4] rfl)
    clear hF
    have hF := hy67
    clear hy67
    refine lv_icmp_ge (tgt := 19) hx hb dX0_drawByLists_11 (by decide) (fun c68 => ?_) (fun c68 => ?_)
    · rw [if_pos c68] at hF
      refine lv_iconst (v := (0 : Int32)) hx hb dX0_drawByLists_19 (by decide) ?_
      obtain rfl := Option.some.inj hF
      exact J67 _ _ _ hP hD hS (lv_sub hl [0, 1, 2, 3, 4] rfl)
    · rw [if_neg c68] at hF
      refine lv_bipush (v := (15 : Int32)) hx hb dX0_drawByLists_14 (by decide) ?_
      refine lv_goto (tgt := 20) hx hb dX0_drawByLists_16 (by decide) ?_
      obtain rfl := Option.some.inj hF
      exact J67 _ _ _ hP hD hS (lv_sub hl [0, 1, 2, 3, 4] rfl)
set_option maxRecDepth 20000 in
theorem gX0_endPicture_X2_filter : GoodIn wuX0_endPicture (wsV RX0 282 RX2 yX2_filter wuX2_filter) := gu_V mw_2721 mw_941 mw_942 mw_173 mw_943
set_option maxRecDepth 20000 in
set_option maxRecDepth 20000 in
theorem gX0_endPicture_X7_acceptCoded : GoodIn wuX0_endPicture (wsV RX0 295 RX7 yX7_acceptCoded wuX7_acceptCoded) := gu_V mw_2723 mw_2724 mw_2725 mw_170 mw_2726
set_option maxRecDepth 20000 in
theorem gX0_endPicture_X4_blocks : GoodIn wuX0_endPicture (wsV RX0 292 RX4 yX4_blocks wuX4_blocks) := gu_V mw_2722 mw_911 mw_912 mw_185 mw_913
set_option maxRecDepth 20000 in
set_option maxRecDepth 20000 in
theorem gX0_endPicture_X11_hash_n183 : GoodIn wuX0_endPicture wuX11_hash := gu_P mw_2341
set_option maxRecDepth 20000 in
set_option maxRecDepth 20000 in
theorem gX0_endPicture_X11_clamp_n286 : GoodIn wuX0_endPicture wuX11_clamp := gu_P mw_939
set_option maxRecDepth 20000 in
theorem dX0_endPicture_0 : decode cX0_endPicture 0 = .ok (.aload_n 0, 1) := by decide +kernel
theorem dX0_endPicture_1 : decode cX0_endPicture 1 = .ok (.getfield 36, 3) := by decide +kernel
theorem dX0_endPicture_4 : decode cX0_endPicture 4 = .ok (.getfield 266, 3) := by decide +kernel
theorem dX0_endPicture_7 : decode cX0_endPicture 7 = .ok (.astore 4, 2) := by decide +kernel
theorem dX0_endPicture_9 : decode cX0_endPicture 9 = .ok (.aload_n 0, 1) := by decide +kernel
theorem dX0_endPicture_10 : decode cX0_endPicture 10 = .ok (.getfield 23, 3) := by decide +kernel
theorem dX0_endPicture_13 : decode cX0_endPicture 13 = .ok (.bipush 16, 2) := by decide +kernel
theorem dX0_endPicture_15 : decode cX0_endPicture 15 = .ok (.iaload, 1) := by decide +kernel
theorem dX0_endPicture_16 : decode cX0_endPicture 16 = .ok (.istore 5, 2) := by decide +kernel
theorem dX0_endPicture_18 : decode cX0_endPicture 18 = .ok (.aload_n 0, 1) := by decide +kernel
theorem dX0_endPicture_19 : decode cX0_endPicture 19 = .ok (.getfield 50, 3) := by decide +kernel
theorem dX0_endPicture_22 : decode cX0_endPicture 22 = .ok (.aload_n 0, 1) := by decide +kernel
theorem dX0_endPicture_23 : decode cX0_endPicture 23 = .ok (.getfield 36, 3) := by decide +kernel
theorem dX0_endPicture_26 : decode cX0_endPicture 26 = .ok (.invokevirtual 282, 3) := by decide +kernel
theorem dX0_endPicture_29 : decode cX0_endPicture 29 = .ok (.iload 5, 2) := by decide +kernel
theorem dX0_endPicture_31 : decode cX0_endPicture 31 = .ok (.ifCond .le 24, 3) := by decide +kernel
theorem dX0_endPicture_34 : decode cX0_endPicture 34 = .ok (.aload_n 0, 1) := by decide +kernel
theorem dX0_endPicture_35 : decode cX0_endPicture 35 = .ok (.iconst 0, 1) := by decide +kernel
theorem dX0_endPicture_36 : decode cX0_endPicture 36 = .ok (.iconst 4, 1) := by decide +kernel
theorem dX0_endPicture_37 : decode cX0_endPicture 37 = .ok (.iload 5, 2) := by decide +kernel
theorem dX0_endPicture_39 : decode cX0_endPicture 39 = .ok (.imul, 1) := by decide +kernel
theorem dX0_endPicture_40 : decode cX0_endPicture 40 = .ok (.aload_n 0, 1) := by decide +kernel
theorem dX0_endPicture_41 : decode cX0_endPicture 41 = .ok (.getfield 116, 3) := by decide +kernel
theorem dX0_endPicture_44 : decode cX0_endPicture 44 = .ok (.iload 5, 2) := by decide +kernel
theorem dX0_endPicture_46 : decode cX0_endPicture 46 = .ok (.iadd, 1) := by decide +kernel
theorem dX0_endPicture_47 : decode cX0_endPicture 47 = .ok (.iload_n 1, 1) := by decide +kernel
theorem dX0_endPicture_48 : decode cX0_endPicture 48 = .ok (.isub, 1) := by decide +kernel
theorem dX0_endPicture_49 : decode cX0_endPicture 49 = .ok (.invokestatic 286, 3) := by decide +kernel
theorem dX0_endPicture_52 : decode cX0_endPicture 52 = .ok (.putfield 116, 3) := by decide +kernel
theorem dX0_endPicture_55 : decode cX0_endPicture 55 = .ok (.aload_n 0, 1) := by decide +kernel
theorem dX0_endPicture_56 : decode cX0_endPicture 56 = .ok (.getfield 119, 3) := by decide +kernel
theorem dX0_endPicture_59 : decode cX0_endPicture 59 = .ok (.bipush 60, 2) := by decide +kernel
theorem dX0_endPicture_61 : decode cX0_endPicture 61 = .ok (.if_icmp .ge 118, 3) := by decide +kernel
theorem dX0_endPicture_64 : decode cX0_endPicture 64 = .ok (.bipush 7, 2) := by decide +kernel
theorem dX0_endPicture_66 : decode cX0_endPicture 66 = .ok (.aload_n 0, 1) := by decide +kernel
theorem dX0_endPicture_67 : decode cX0_endPicture 67 = .ok (.getfield 119, 3) := by decide +kernel
theorem dX0_endPicture_70 : decode cX0_endPicture 70 = .ok (.imul, 1) := by decide +kernel
theorem dX0_endPicture_71 : decode cX0_endPicture 71 = .ok (.istore 6, 2) := by decide +kernel
theorem dX0_endPicture_73 : decode cX0_endPicture 73 = .ok (.aload_n 0, 1) := by decide +kernel
theorem dX0_endPicture_74 : decode cX0_endPicture 74 = .ok (.getfield 72, 3) := by decide +kernel
theorem dX0_endPicture_77 : decode cX0_endPicture 77 = .ok (.iload 6, 2) := by decide +kernel
theorem dX0_endPicture_79 : decode cX0_endPicture 79 = .ok (.iload_n 1, 1) := by decide +kernel
theorem dX0_endPicture_80 : decode cX0_endPicture 80 = .ok (.iastore, 1) := by decide +kernel
theorem dX0_endPicture_81 : decode cX0_endPicture 81 = .ok (.aload_n 0, 1) := by decide +kernel
theorem dX0_endPicture_82 : decode cX0_endPicture 82 = .ok (.getfield 72, 3) := by decide +kernel
theorem dX0_endPicture_85 : decode cX0_endPicture 85 = .ok (.iload 6, 2) := by decide +kernel
theorem dX0_endPicture_87 : decode cX0_endPicture 87 = .ok (.iconst 1, 1) := by decide +kernel
theorem dX0_endPicture_88 : decode cX0_endPicture 88 = .ok (.iadd, 1) := by decide +kernel
theorem dX0_endPicture_89 : decode cX0_endPicture 89 = .ok (.iload_n 2, 1) := by decide +kernel
theorem dX0_endPicture_90 : decode cX0_endPicture 90 = .ok (.iastore, 1) := by decide +kernel
theorem dX0_endPicture_91 : decode cX0_endPicture 91 = .ok (.aload_n 0, 1) := by decide +kernel
theorem dX0_endPicture_92 : decode cX0_endPicture 92 = .ok (.getfield 72, 3) := by decide +kernel
theorem dX0_endPicture_95 : decode cX0_endPicture 95 = .ok (.iload 6, 2) := by decide +kernel
theorem dX0_endPicture_97 : decode cX0_endPicture 97 = .ok (.iconst 2, 1) := by decide +kernel
theorem dX0_endPicture_98 : decode cX0_endPicture 98 = .ok (.iadd, 1) := by decide +kernel
theorem dX0_endPicture_99 : decode cX0_endPicture 99 = .ok (.aload_n 0, 1) := by decide +kernel
theorem dX0_endPicture_100 : decode cX0_endPicture 100 = .ok (.getfield 36, 3) := by decide +kernel
theorem dX0_endPicture_103 : decode cX0_endPicture 103 = .ok (.getfield 81, 3) := by decide +kernel
theorem dX0_endPicture_106 : decode cX0_endPicture 106 = .ok (.getfield 252, 3) := by decide +kernel
theorem dX0_endPicture_109 : decode cX0_endPicture 109 = .ok (.iconst 1, 1) := by decide +kernel
theorem dX0_endPicture_110 : decode cX0_endPicture 110 = .ok (.iaload, 1) := by decide +kernel
theorem dX0_endPicture_111 : decode cX0_endPicture 111 = .ok (.iastore, 1) := by decide +kernel
theorem dX0_endPicture_112 : decode cX0_endPicture 112 = .ok (.aload_n 0, 1) := by decide +kernel
theorem dX0_endPicture_113 : decode cX0_endPicture 113 = .ok (.getfield 72, 3) := by decide +kernel
theorem dX0_endPicture_116 : decode cX0_endPicture 116 = .ok (.iload 6, 2) := by decide +kernel
theorem dX0_endPicture_118 : decode cX0_endPicture 118 = .ok (.iconst 3, 1) := by decide +kernel
theorem dX0_endPicture_119 : decode cX0_endPicture 119 = .ok (.iadd, 1) := by decide +kernel
theorem dX0_endPicture_120 : decode cX0_endPicture 120 = .ok (.iload_n 3, 1) := by decide +kernel
theorem dX0_endPicture_121 : decode cX0_endPicture 121 = .ok (.iastore, 1) := by decide +kernel
theorem dX0_endPicture_122 : decode cX0_endPicture 122 = .ok (.aload_n 0, 1) := by decide +kernel
theorem dX0_endPicture_123 : decode cX0_endPicture 123 = .ok (.getfield 72, 3) := by decide +kernel
theorem dX0_endPicture_126 : decode cX0_endPicture 126 = .ok (.iload 6, 2) := by decide +kernel
theorem dX0_endPicture_128 : decode cX0_endPicture 128 = .ok (.iconst 4, 1) := by decide +kernel
theorem dX0_endPicture_129 : decode cX0_endPicture 129 = .ok (.iadd, 1) := by decide +kernel
theorem dX0_endPicture_130 : decode cX0_endPicture 130 = .ok (.aload 4, 2) := by decide +kernel
theorem dX0_endPicture_132 : decode cX0_endPicture 132 = .ok (.getfield 275, 3) := by decide +kernel
theorem dX0_endPicture_135 : decode cX0_endPicture 135 = .ok (.iastore, 1) := by decide +kernel
theorem dX0_endPicture_136 : decode cX0_endPicture 136 = .ok (.aload_n 0, 1) := by decide +kernel
theorem dX0_endPicture_137 : decode cX0_endPicture 137 = .ok (.getfield 72, 3) := by decide +kernel
theorem dX0_endPicture_140 : decode cX0_endPicture 140 = .ok (.iload 6, 2) := by decide +kernel
theorem dX0_endPicture_142 : decode cX0_endPicture 142 = .ok (.iconst 5, 1) := by decide +kernel
theorem dX0_endPicture_143 : decode cX0_endPicture 143 = .ok (.iadd, 1) := by decide +kernel
theorem dX0_endPicture_144 : decode cX0_endPicture 144 = .ok (.aload 4, 2) := by decide +kernel
theorem dX0_endPicture_146 : decode cX0_endPicture 146 = .ok (.getfield 289, 3) := by decide +kernel
theorem dX0_endPicture_149 : decode cX0_endPicture 149 = .ok (.iconst 0, 1) := by decide +kernel
theorem dX0_endPicture_150 : decode cX0_endPicture 150 = .ok (.aaload, 1) := by decide +kernel
theorem dX0_endPicture_151 : decode cX0_endPicture 151 = .ok (.iconst 0, 1) := by decide +kernel
theorem dX0_endPicture_152 : decode cX0_endPicture 152 = .ok (.sipush 256, 3) := by decide +kernel
theorem dX0_endPicture_155 : decode cX0_endPicture 155 = .ok (.aload 4, 2) := by decide +kernel
theorem dX0_endPicture_157 : decode cX0_endPicture 157 = .ok (.invokevirtual 292, 3) := by decide +kernel
theorem dX0_endPicture_160 : decode cX0_endPicture 160 = .ok (.imul, 1) := by decide +kernel
theorem dX0_endPicture_161 : decode cX0_endPicture 161 = .ok (.invokestatic 183, 3) := by decide +kernel
theorem dX0_endPicture_164 : decode cX0_endPicture 164 = .ok (.iastore, 1) := by decide +kernel
theorem dX0_endPicture_165 : decode cX0_endPicture 165 = .ok (.aload_n 0, 1) := by decide +kernel
theorem dX0_endPicture_166 : decode cX0_endPicture 166 = .ok (.getfield 72, 3) := by decide +kernel
theorem dX0_endPicture_169 : decode cX0_endPicture 169 = .ok (.iload 6, 2) := by decide +kernel
theorem dX0_endPicture_171 : decode cX0_endPicture 171 = .ok (.bipush 6, 2) := by decide +kernel
theorem dX0_endPicture_173 : decode cX0_endPicture 173 = .ok (.iadd, 1) := by decide +kernel
theorem dX0_endPicture_174 : decode cX0_endPicture 174 = .ok (.aload_n 0, 1) := by decide +kernel
theorem dX0_endPicture_175 : decode cX0_endPicture 175 = .ok (.getfield 116, 3) := by decide +kernel
theorem dX0_endPicture_178 : decode cX0_endPicture 178 = .ok (.iastore, 1) := by decide +kernel
theorem dX0_endPicture_179 : decode cX0_endPicture 179 = .ok (.aload_n 0, 1) := by decide +kernel
theorem dX0_endPicture_180 : decode cX0_endPicture 180 = .ok (.dup, 1) := by decide +kernel
theorem dX0_endPicture_181 : decode cX0_endPicture 181 = .ok (.getfield 119, 3) := by decide +kernel
theorem dX0_endPicture_184 : decode cX0_endPicture 184 = .ok (.iconst 1, 1) := by decide +kernel
theorem dX0_endPicture_185 : decode cX0_endPicture 185 = .ok (.iadd, 1) := by decide +kernel
theorem dX0_endPicture_186 : decode cX0_endPicture 186 = .ok (.putfield 119, 3) := by decide +kernel
theorem dX0_endPicture_189 : decode cX0_endPicture 189 = .ok (.aload_n 0, 1) := by decide +kernel
theorem dX0_endPicture_190 : decode cX0_endPicture 190 = .ok (.getfield 57, 3) := by decide +kernel
theorem dX0_endPicture_193 : decode cX0_endPicture 193 = .ok (.aload 4, 2) := by decide +kernel
theorem dX0_endPicture_195 : decode cX0_endPicture 195 = .ok (.aload_n 0, 1) := by decide +kernel
theorem dX0_endPicture_196 : decode cX0_endPicture 196 = .ok (.getfield 36, 3) := by decide +kernel
theorem dX0_endPicture_199 : decode cX0_endPicture 199 = .ok (.getfield 81, 3) := by decide +kernel
theorem dX0_endPicture_202 : decode cX0_endPicture 202 = .ok (.aload_n 0, 1) := by decide +kernel
theorem dX0_endPicture_203 : decode cX0_endPicture 203 = .ok (.getfield 61, 3) := by decide +kernel
theorem dX0_endPicture_206 : decode cX0_endPicture 206 = .ok (.invokevirtual 295, 3) := by decide +kernel
theorem dX0_endPicture_209 : decode cX0_endPicture 209 = .ok (.aload_n 0, 1) := by decide +kernel
theorem dX0_endPicture_210 : decode cX0_endPicture 210 = .ok (.getfield 36, 3) := by decide +kernel
theorem dX0_endPicture_213 : decode cX0_endPicture 213 = .ok (.getfield 81, 3) := by decide +kernel
theorem dX0_endPicture_216 : decode cX0_endPicture 216 = .ok (.getfield 252, 3) := by decide +kernel
theorem dX0_endPicture_219 : decode cX0_endPicture 219 = .ok (.bipush 11, 2) := by decide +kernel
theorem dX0_endPicture_221 : decode cX0_endPicture 221 = .ok (.iaload, 1) := by decide +kernel
theorem dX0_endPicture_222 : decode cX0_endPicture 222 = .ok (.ifCond .eq 15, 3) := by decide +kernel
theorem dX0_endPicture_225 : decode cX0_endPicture 225 = .ok (.aload_n 0, 1) := by decide +kernel
theorem dX0_endPicture_226 : decode cX0_endPicture 226 = .ok (.getfield 57, 3) := by decide +kernel
theorem dX0_endPicture_229 : decode cX0_endPicture 229 = .ok (.aload 4, 2) := by decide +kernel
theorem dX0_endPicture_231 : decode cX0_endPicture 231 = .ok (.getfield 270, 3) := by decide +kernel
theorem dX0_endPicture_234 : decode cX0_endPicture 234 = .ok (.putfield 255, 3) := by decide +kernel
theorem dX0_endPicture_237 : decode cX0_endPicture 237 = .ok (.return_, 1) := by decide +kernel
def FX0_endPicture (G : GG) (M : DD) (a : Nat) (p0 : Int32) (p1 : Int32) (p2 : Int32) : Option (DD) :=
  dr G 9 ((M.2 a 3)) fun b2 =>
  dr G 13 ((M.2 a 1)) fun b3 =>
  chk (¬ (((16 : Int32)) < 0 ∨ G.2.2 b3 ≤ ((16 : Int32)).toNatClampNeg)) <|
  ltt (M.1 b3 ((16 : Int32)).toNatClampNeg) fun x4 =>
  dr G 2 ((M.2 a 5)) fun b5 =>
  bnd (FX2_filter G M b5 ((M.2 a 3))) fun y6 =>
  bnd (if x4 ≤ ((0 : Int32)) then (some (y6)) else
  (ltt ((((4 : Int32)) * x4)) fun x61 =>
  ltt (y6.1 a 15) fun x62 =>
  ltt ((x62 + x4)) fun x63 =>
  ltt ((x63 - p0)) fun x64 =>
  bnd (FX11_clamp G y6 ((0 : Int32)) x61 x64) fun y65 =>
  ltt (uI y65.1 a 15 y65.2) fun M66 =>
  some (M66))) fun (y7 : DD) =>
  ltt (y7.1 a 16) fun x8 =>
  bnd (if ((60 : Int32)) ≤ x8 then (some (y7)) else
  (ltt (y7.1 a 16) fun x27 =>
  ltt ((((7 : Int32)) * x27)) fun x28 =>
  dr G 13 ((y7.2 a 17)) fun b29 =>
  chk (¬ (x28 < 0 ∨ G.2.2 b29 ≤ x28.toNatClampNeg)) <|
  ltt (uI y7 b29 x28.toNatClampNeg p0) fun M30 =>
  ltt ((x28 + ((1 : Int32)))) fun x31 =>
  dr G 13 ((M30.2 a 17)) fun b32 =>
  chk (¬ (x31 < 0 ∨ G.2.2 b32 ≤ x31.toNatClampNeg)) <|
  ltt (uI M30 b32 x31.toNatClampNeg p1) fun M33 =>
  ltt ((x28 + ((2 : Int32)))) fun x34 =>
  dr G 9 ((M33.2 a 3)) fun b35 =>
  dr G 3 ((M33.2 b35 1)) fun b36 =>
  dr G 13 ((M33.2 b36 0)) fun b37 =>
  chk (¬ (((1 : Int32)) < 0 ∨ G.2.2 b37 ≤ ((1 : Int32)).toNatClampNeg)) <|
  ltt (M33.1 b37 ((1 : Int32)).toNatClampNeg) fun x38 =>
  dr G 13 ((M33.2 a 17)) fun b39 =>
  chk (¬ (x34 < 0 ∨ G.2.2 b39 ≤ x34.toNatClampNeg)) <|
  ltt (uI M33 b39 x34.toNatClampNeg x38) fun M40 =>
  ltt ((x28 + ((3 : Int32)))) fun x41 =>
  dr G 13 ((M40.2 a 17)) fun b42 =>
  chk (¬ (x41 < 0 ∨ G.2.2 b42 ≤ x41.toNatClampNeg)) <|
  ltt (uI M40 b42 x41.toNatClampNeg p2) fun M43 =>
  ltt ((x28 + ((4 : Int32)))) fun x44 =>
  dr G 4 ((M.2 b2 0)) fun b45 =>
  ltt (M43.1 b45 9) fun x46 =>
  dr G 13 ((M43.2 a 17)) fun b47 =>
  chk (¬ (x44 < 0 ∨ G.2.2 b47 ≤ x44.toNatClampNeg)) <|
  ltt (uI M43 b47 x44.toNatClampNeg x46) fun M48 =>
  ltt ((x28 + ((5 : Int32)))) fun x49 =>
  dr G 15 ((M48.2 b45 4)) fun b50 =>
  chk (¬ (((0 : Int32)) < 0 ∨ G.2.2 b50 ≤ ((0 : Int32)).toNatClampNeg)) <|
  bnd (FX4_blocks G M48 b45) fun y51 =>
  ltt ((((256 : Int32)) * y51.2)) fun x52 =>
  bnd (FX11_hash G y51.1 ((M48.2 b50 ((0 : Int32)).toNatClampNeg)) ((0 : Int32)) x52) fun y53 =>
  dr G 13 ((M48.2 a 17)) fun b54 =>
  chk (¬ (x49 < 0 ∨ G.2.2 b54 ≤ x49.toNatClampNeg)) <|
  ltt (uI y53.1 b54 x49.toNatClampNeg y53.2) fun M55 =>
  ltt ((x28 + ((6 : Int32)))) fun x56 =>
  ltt (M55.1 a 15) fun x57 =>
  dr G 13 ((M55.2 a 17)) fun b58 =>
  chk (¬ (x56 < 0 ∨ G.2.2 b58 ≤ x56.toNatClampNeg)) <|
  ltt (uI M55 b58 x56.toNatClampNeg x57) fun M59 =>
  some (M59))) fun (y9 : DD) =>
  ltt (y9.1 a 16) fun x10 =>
  ltt ((x10 + ((1 : Int32)))) fun x11 =>
  ltt (uI y9 a 16 x11) fun M12 =>
  dr G 9 ((M12.2 a 3)) fun b13 =>
  dr G 7 ((M12.2 a 6)) fun b14 =>
  bnd (FX7_acceptCoded G M12 b14 ((M.2 b2 0)) ((M12.2 b13 1)) ((M12.2 a 7))) fun y15 =>
  dr G 9 ((y15.2 a 3)) fun b16 =>
  dr G 3 ((y15.2 b16 1)) fun b17 =>
  dr G 13 ((y15.2 b17 0)) fun b18 =>
  chk (¬ (((11 : Int32)) < 0 ∨ G.2.2 b18 ≤ ((11 : Int32)).toNatClampNeg)) <|
  ltt (y15.1 b18 ((11 : Int32)).toNatClampNeg) fun x19 =>
  bnd (if x19 = ((0 : Int32)) then (some (y15)) else
  (dr G 4 ((M.2 b2 0)) fun b22 =>
  ltt (y15.1 b22 8) fun x23 =>
  dr G 7 ((y15.2 a 6)) fun b24 =>
  ltt (uI y15 b24 5 x23) fun M25 =>
  some (M25))) fun (y20 : DD) =>
  some y20
set_option maxHeartbeats 4000000 in
set_option maxRecDepth 100000 in
theorem kX0_endPicture (l : Launch) (D : va_G) (ct : CT) (ad : Nat → Nat) (Z : Nat → Nat) (G : GG) (M : DD) (sz : Nat) (a : Nat) (p0 : Int32) (p1 : Int32) (p2 : Int32) (y : DD) (hc : a < G.1) (hk : G.2.1 a = 0) (hF : FX0_endPicture G M a p0 p1 p2 = some y) : Met l yX0_endPicture wuX0_endPicture ({ frames := 5, cells := 0, slots := 0, locals := 136 }) (va_Pc [.ref (ad a), .int p0, .int p1, .int p2] (kB D ct ad Z G M sz)) (va_Qv (fun (_ : Unit) => True) (fun _ t => kE D ct ad G (wA ad G sz) y t) (wA ad G sz)) 0 0 (wA ad G sz) := by
  refine Met.ofW (cc := cX0_endPicture) (maxL := 7) (ret := none) (by decide) rfl ?_
  intro p e s m args below meth c s₁ B hml hv
  obtain ⟨rfl, hsz, hP, hK, hD0, hZ, hN⟩ := hv
  have hx := B.exec
  have hb := B.bytes
  have hr := B.returns
  have hts := atoms_spec (ws := wuX0_endPicture) B.pre
  have hown : s.vm.findClass RX0 = some m.cls := findClass_of_methodNamed B.named
  have hlocks := B.notSynchronized
  subst hsz
  have hD := wD_self (sz := s.heap.size) hD0
  have hA9 : ∀ q, s.heap.size ≤ q → wA ad G s.heap.size q := fun q h => Or.inr h
  generalize hAe : wA ad G s.heap.size = A at hD hA9 hZ ⊢
  have hS : va_S A s.heap s.heap [] := va_S.rf
  have hl := lv_entry ([.ref (ad a), .int p0, .int p1, .int p2]) (n := 7) (Nat.le_of_ble_eq_true rfl)
  rw [lg_entry_eq]
  generalize (lg_sl ([.ref (ad a), .int p0, .int p1, .int p2]) ++ List.replicate (7 - (lg_sl ([.ref (ad a), .int p0, .int p1, .int p2])).length) Slot.unset).toArray = ls at hl ⊢
  have hl : lv_has ls 7 [(0, .ref (ad a)), (1, .int p0), (2, .int p1), (3, .int p2)] := hl
  unfold FX0_endPicture at hF
  refine lv_aload_n hx hb dX0_endPicture_0 rfl (lv_at hl 0 rfl) ?_
  refine va_get (D := D) (ci := 0) (v := va_re ad (M.2 a 3)) (C := RX0) (T := TX0) (N := 21) hx hb hts (mus hf_X0) hown hK hP a (wld_o ct ad G M hc hk (by decide)) rfl 3 (by decide) (hts (.fieldLink RX0 36 "VideoSuite$Coder" "work" "LVideoSuite$Work;") (mu mw_817)) (fun _ h9 => h9) rfl dX0_endPicture_1 ?_
  obtain ⟨b2, ho2, hc2, hk2, hF⟩ := dr_some hF
  refine W_st (st' := [.ref (ad b2)]) (by rw [va_some ho2]) ?_
  refine va_get (D := D) (ci := 9) (v := va_re ad (M.2 b2 0)) (C := RX9) (T := TX9) (N := 20) hx hb hts (mus hf_X9) hown hK hP b2 (wld_o ct ad G M hc2 hk2 (by decide)) rfl 0 (by decide) (hts (.fieldLink RX0 266 "VideoSuite$Work" "pic" "LVideoSuite$Picture;") (mu mw_424)) (fun _ h9 => h9) rfl dX0_endPicture_4 ?_
  refine lv_astoreq (lv' := [(4, va_re ad (M.2 b2 0)), (0, .ref (ad a)), (1, .int p0), (2, .int p1), (3, .int p2)]) hx hb dX0_endPicture_7 hl (by decide) rfl (fun ls hl => ?_)
  refine lv_aload_n hx hb dX0_endPicture_9 rfl (lv_at hl 1 rfl) ?_
  refine va_get (D := D) (ci := 0) (v := va_re ad (M.2 a 1)) (C := RX0) (T := TX0) (N := 21) hx hb hts (mus hf_X0) hown hK hP a (wld_o ct ad G M hc hk (by decide)) rfl 1 (by decide) (hts (.fieldLink RX0 23 "VideoSuite$Coder" "now" "[I") (mu mw_813)) (fun _ h9 => h9) rfl dX0_endPicture_10 ?_
  refine lv_bipush (v := (16 : Int32)) hx hb dX0_endPicture_13 (by decide) ?_
  obtain ⟨b3, ho3, hc3, hk3, hF⟩ := dr_some hF
  refine W_st (st' := [.int (16 : Int32), .ref (ad b3)]) (by rw [va_some ho3]) ?_
  obtain ⟨hvc, hF⟩ := chk_some hF
  refine va_iald hx hb hK hP b3 1 (wld_i ct ad G M hc3 hk3) rfl hvc dX0_endPicture_15 ?_
  obtain ⟨x4, ex4, hF⟩ := ltt_some hF
  refine lv_topi (fun zx4 ezx4 => ?_)
  obtain rfl : x4 = zx4 := ex4.trans ezx4.symm
  refine lv_istore (lv' := [(5, .int x4), (4, va_re ad (M.2 b2 0)), (0, .ref (ad a)), (1, .int p0), (2, .int p1), (3, .int p2)]) hx hb dX0_endPicture_16 hl (by decide) (by generalize ((M.2 b2 0)) = o9; cases o9 <;> rfl) (fun ls hl => ?_)
  refine lv_aload_n hx hb dX0_endPicture_18 rfl (lv_at hl 2 rfl) ?_
  refine va_get (D := D) (ci := 0) (v := va_re ad (M.2 a 5)) (C := RX0) (T := TX0) (N := 21) hx hb hts (mus hf_X0) hown hK hP a (wld_o ct ad G M hc hk (by decide)) rfl 5 (by decide) (hts (.fieldLink RX0 50 "VideoSuite$Coder" "edges" "LVideoSuite$Edges;") (mu mw_819)) (fun _ h9 => h9) rfl dX0_endPicture_19 ?_
  refine lv_aload_n hx hb dX0_endPicture_22 rfl (lv_at hl 2 rfl) ?_
  refine va_get (D := D) (ci := 0) (v := va_re ad (M.2 a 3)) (C := RX0) (T := TX0) (N := 21) hx hb hts (mus hf_X0) hown hK hP a (wld_o ct ad G M hc hk (by decide)) rfl 3 (by decide) (hts (.fieldLink RX0 36 "VideoSuite$Coder" "work" "LVideoSuite$Work;") (mu mw_817)) (fun _ h9 => h9) rfl dX0_endPicture_23 ?_
  obtain ⟨b5, ho5, hc5, hk5, hF⟩ := dr_some hF
  refine W_st (st' := [va_re ad (M.2 a 3), .ref (ad b5)]) (by rw [va_some ho5]) ?_
  obtain ⟨y6, hy6, hF⟩ := bnd_some hF
  have hf9 := wA_in hD hA9 hS
  refine va_callv (va_runV (As := [va_re ad (M.2 a 3)]) (rest := []) ⟨hx, hb, hml, hown, hts⟩ (kX2_filter l D ct ad Z G M s.heap.size b5 ((M.2 a 3)) y6 hc5 hk5 hy6) (cwV 1 hts gX0_endPicture_X2_filter rfl rfl rfl (by decide +kernel) ⟨Nat.le_of_ble_eq_true rfl, Nat.le_of_ble_eq_true rfl⟩) ⟨fun a U g mk q => by obtain ⟨q0, q1, qP, qK, qD, qZ, qN⟩ := q; exact ⟨q0, q1, qP, va_K.moved (u := U) (U := U.calling g mk a) (Vm.Alike.refl U.vm) qK, qD, sF.moved (u := U) (U := U.calling g mk a) (Vm.Alike.refl U.vm) qZ, nF.same rfl qN⟩, va_recv hK hP (ci := 2) (q0 := b5) rfl (wld_o ct ad G M hc5 hk5 (by decide)), fun U hU hW => ⟨rfl, by rw [hU], by rw [hU]; exact hP, va_K.moved hW.alike hK, hD.weaken (fun _ _ _ _ => trivial), by rw [hU]; exact ((hZ.kept hS.2.1).narrow hf9).moved hW.alike, hN.warm hW⟩⟩ rfl rfl hl.1 rfl (lv_room (Nat.le_of_ble_eq_true rfl)) dX0_endPicture_26 ⟨(Nat.zero_le _), (Nat.zero_le _)⟩) hS (fun q _ h => hf9 q h) hf9 (fun u t H locs ht hvm hw hB hz1 hk1 hS => ?_)
  obtain ⟨hP, hK9, hD9⟩ := hB
  rw [ht] at hP
  have hD := hD9.weaken (fun _ q _ h => hf9 q.1 h)
  refine lv_iload hx hb dX0_endPicture_29 (lv_at hl 0 rfl) ?_
  obtain ⟨y7, hy7, hF⟩ := bnd_some hF
  have J7 : ∀ (H : Heap) (locs : List Loc) (ls : Array Slot), va_P D classes (wld ct ad G y7) H → va_D A (wld ct ad G y7) → va_S A s.heap H locs → lv_has ls 7 [(5, .int x4), (4, va_re ad (M.2 b2 0)), (0, .ref (ad a)), (1, .int p0), (2, .int p1), (3, .int p2)] → W p l e (headSpec wuX0_endPicture ({ frames := 5, cells := 0, slots := 0, locals := 136 })).room s m ([.ref (ad a), .int p0, .int p1, .int p2] : List Value).toArray below meth c H locs 0 0 (MQ below (va_Qv (fun (_ : Unit) => True) (fun _ t => kE D ct ad G A y t) A) ([.ref (ad a), .int p0, .int p1, .int p2] : List Value).toArray s 0 0 A) (F0 m 55 ls []) := by
    intro H locs ls hP hD hS hl
    refine lv_aload_n hx hb dX0_endPicture_55 rfl (lv_at hl 2 rfl) ?_
    refine va_get (D := D) (ci := 0) (v := .int (y7.1 a 16)) (C := RX0) (T := TX0) (N := 21) hx hb hts (mus hf_X0) hown hK hP a (wld_o ct ad G y7 hc hk (by decide)) rfl 16 (by decide) (hts (.fieldLink RX0 119 "VideoSuite$Coder" "codedCount" "I") (mu mw_832)) (fun _ h9 => h9) rfl dX0_endPicture_56 ?_
    obtain ⟨x8, ex8, hF⟩ := ltt_some hF
    refine lv_topi (fun zx8 ezx8 => ?_)
    obtain rfl : x8 = zx8 := ex8.trans ezx8.symm
    refine lv_bipush (v := (60 : Int32)) hx hb dX0_endPicture_59 (by decide) ?_
    obtain ⟨y9, hy9, hF⟩ := bnd_some hF
    have J9 : ∀ (H : Heap) (locs : List Loc) (ls : Array Slot), va_P D classes (wld ct ad G y9) H → va_D A (wld ct ad G y9) → va_S A s.heap H locs → lv_has ls 7 [(5, .int x4), (4, va_re ad (M.2 b2 0)), (0, .ref (ad a)), (1, .int p0), (2, .int p1), (3, .int p2)] → W p l e (headSpec wuX0_endPicture ({ frames := 5, cells := 0, slots := 0, locals := 136 })).room s m ([.ref (ad a), .int p0, .int p1, .int p2] : List Value).toArray below meth c H locs 0 0 (MQ below (va_Qv (fun (_ : Unit) => True) (fun _ t => kE D ct ad G A y t) A) ([.ref (ad a), .int p0, .int p1, .int p2] : List Value).toArray s 0 0 A) (F0 m 179 ls []) := by
      intro H locs ls hP hD hS hl
      refine lv_aload_n hx hb dX0_endPicture_179 rfl (lv_at hl 2 rfl) ?_
      refine lv_dup hx hb dX0_endPicture_180 rfl ?_
      refine va_get (D := D) (ci := 0) (v := .int (y9.1 a 16)) (C := RX0) (T := TX0) (N := 21) hx hb hts (mus hf_X0) hown hK hP a (wld_o ct ad G y9 hc hk (by decide)) rfl 16 (by decide) (hts (.fieldLink RX0 119 "VideoSuite$Coder" "codedCount" "I") (mu mw_832)) (fun _ h9 => h9) rfl dX0_endPicture_181 ?_
      obtain ⟨x10, ex10, hF⟩ := ltt_some hF
      refine lv_topi (fun zx10 ezx10 => ?_)
      obtain rfl : x10 = zx10 := ex10.trans ezx10.symm
      refine lv_iconst (v := (1 : Int32)) hx hb dX0_endPicture_184 (by decide) ?_
      refine lv_iadd hx hb dX0_endPicture_185 ?_
      obtain ⟨x11, ex11, hF⟩ := ltt_some hF
      refine lv_topi (fun zx11 ezx11 => ?_)
      obtain rfl : x11 = zx11 := ex11.trans ezx11.symm
      refine va_put (D := D) (ci := 0) (v := .int x11) (ty := .int) (C := RX0) (T := TX0) (N := 21) hx hb hts (mus hf_X0) tyX0 tyX0_ok nmX0 hown hK hP hD hS a (wld_o ct ad G y9 hc hk (by decide)) rfl 16 (by decide) (hts (.fieldLink RX0 119 "VideoSuite$Coder" "codedCount" "I") (mu mw_832)) (fun _ h9 => h9) rfl (by decide +kernel) rfl rfl (Nat.le_of_ble_eq_true rfl) dX0_endPicture_186 (fun H locs hP hD hS => ?_)
      obtain ⟨M12, eM12, hF⟩ := ltt_some hF
      rw [set_oI ct ad G y9 hc hk (by decide) (by rfl), ← eM12] at hP hD
      refine lv_aload_n hx hb dX0_endPicture_189 rfl (lv_at hl 2 rfl) ?_
      refine va_get (D := D) (ci := 0) (v := va_re ad (M12.2 a 6)) (C := RX0) (T := TX0) (N := 21) hx hb hts (mus hf_X0) hown hK hP a (wld_o ct ad G M12 hc hk (by decide)) rfl 6 (by decide) (hts (.fieldLink RX0 57 "VideoSuite$Coder" "store" "LVideoSuite$Store;") (mu mw_820)) (fun _ h9 => h9) rfl dX0_endPicture_190 ?_
      refine lv_aloadq hx hb dX0_endPicture_193 (lv_at hl 1 rfl) ?_
      refine lv_aload_n hx hb dX0_endPicture_195 rfl (lv_at hl 2 rfl) ?_
      refine va_get (D := D) (ci := 0) (v := va_re ad (M12.2 a 3)) (C := RX0) (T := TX0) (N := 21) hx hb hts (mus hf_X0) hown hK hP a (wld_o ct ad G M12 hc hk (by decide)) rfl 3 (by decide) (hts (.fieldLink RX0 36 "VideoSuite$Coder" "work" "LVideoSuite$Work;") (mu mw_817)) (fun _ h9 => h9) rfl dX0_endPicture_196 ?_
      obtain ⟨b13, ho13, hc13, hk13, hF⟩ := dr_some hF
      refine W_st (st' := [.ref (ad b13), va_re ad (M.2 b2 0), va_re ad (M12.2 a 6)]) (by rw [va_some ho13]) ?_
      refine va_get (D := D) (ci := 9) (v := va_re ad (M12.2 b13 1)) (C := RX9) (T := TX9) (N := 20) hx hb hts (mus hf_X9) hown hK hP b13 (wld_o ct ad G M12 hc13 hk13 (by decide)) rfl 1 (by decide) (hts (.fieldLink RX0 81 "VideoSuite$Work" "head" "LVideoSuite$Header;") (mu mw_425)) (fun _ h9 => h9) rfl dX0_endPicture_199 ?_
      refine lv_aload_n hx hb dX0_endPicture_202 rfl (lv_at hl 2 rfl) ?_
      refine va_get (D := D) (ci := 0) (v := va_re ad (M12.2 a 7)) (C := RX0) (T := TX0) (N := 21) hx hb hts (mus hf_X0) hown hK hP a (wld_o ct ad G M12 hc hk (by decide)) rfl 7 (by decide) (hts (.fieldLink RX0 61 "VideoSuite$Coder" "sequence" "[I") (mu mw_821)) (fun _ h9 => h9) rfl dX0_endPicture_203 ?_
      obtain ⟨b14, ho14, hc14, hk14, hF⟩ := dr_some hF
      refine W_st (st' := [va_re ad (M12.2 a 7), va_re ad (M12.2 b13 1), va_re ad (M.2 b2 0), .ref (ad b14)]) (by rw [va_some ho14]) ?_
      obtain ⟨y15, hy15, hF⟩ := bnd_some hF
      have hf9 := wA_in hD hA9 hS
      refine va_callv (va_runV (As := [va_re ad (M.2 b2 0), va_re ad (M12.2 b13 1), va_re ad (M12.2 a 7)]) (rest := []) ⟨hx, hb, hml, hown, hts⟩ (kX7_acceptCoded l D ct ad Z G M12 H.size b14 ((M.2 b2 0)) ((M12.2 b13 1)) ((M12.2 a 7)) y15 hc14 hk14 hy15) (cwV 3 hts gX0_endPicture_X7_acceptCoded rfl rfl rfl (by decide +kernel) ⟨Nat.le_of_ble_eq_true rfl, Nat.le_of_ble_eq_true rfl⟩) ⟨fun a U g mk q => by obtain ⟨q0, q1, qP, qK, qD, qZ, qN⟩ := q; exact ⟨q0, q1, qP, va_K.moved (u := U) (U := U.calling g mk a) (Vm.Alike.refl U.vm) qK, qD, sF.moved (u := U) (U := U.calling g mk a) (Vm.Alike.refl U.vm) qZ, nF.same rfl qN⟩, va_recv hK hP (ci := 7) (q0 := b14) rfl (wld_o ct ad G M12 hc14 hk14 (by decide)), fun U hU hW => ⟨rfl, by rw [hU], by rw [hU]; exact hP, va_K.moved hW.alike hK, hD.weaken (fun _ _ _ _ => trivial), by rw [hU]; exact ((hZ.kept hS.2.1).narrow hf9).moved hW.alike, hN.warm hW⟩⟩ rfl rfl hl.1 rfl (lv_room (Nat.le_of_ble_eq_true rfl)) dX0_endPicture_206 ⟨(Nat.zero_le _), (Nat.zero_le _)⟩) hS (fun q _ h => hf9 q h) hf9 (fun u t H locs ht hvm hw hB hz1 hk1 hS => ?_)
      obtain ⟨hP, hK9, hD9⟩ := hB
      rw [ht] at hP
      have hD := hD9.weaken (fun _ q _ h => hf9 q.1 h)
      refine lv_aload_n hx hb dX0_endPicture_209 rfl (lv_at hl 2 rfl) ?_
      refine va_get (D := D) (ci := 0) (v := va_re ad (y15.2 a 3)) (C := RX0) (T := TX0) (N := 21) hx hb hts (mus hf_X0) hown hK hP a (wld_o ct ad G y15 hc hk (by decide)) rfl 3 (by decide) (hts (.fieldLink RX0 36 "VideoSuite$Coder" "work" "LVideoSuite$Work;") (mu mw_817)) (fun _ h9 => h9) rfl dX0_endPicture_210 ?_
      obtain ⟨b16, ho16, hc16, hk16, hF⟩ := dr_some hF
      refine W_st (st' := [.ref (ad b16)]) (by rw [va_some ho16]) ?_
      refine va_get (D := D) (ci := 9) (v := va_re ad (y15.2 b16 1)) (C := RX9) (T := TX9) (N := 20) hx hb hts (mus hf_X9) hown hK hP b16 (wld_o ct ad G y15 hc16 hk16 (by decide)) rfl 1 (by decide) (hts (.fieldLink RX0 81 "VideoSuite$Work" "head" "LVideoSuite$Header;") (mu mw_425)) (fun _ h9 => h9) rfl dX0_endPicture_213 ?_
      obtain ⟨b17, ho17, hc17, hk17, hF⟩ := dr_some hF
      refine W_st (st' := [.ref (ad b17)]) (by rw [va_some ho17]) ?_
      refine va_get (D := D) (ci := 3) (v := va_re ad (y15.2 b17 0)) (C := RX3) (T := TX3) (N := 4) hx hb hts (mus hf_X3) hown hK hP b17 (wld_o ct ad G y15 hc17 hk17 (by decide)) rfl 0 (by decide) (hts (.fieldLink RX0 252 "VideoSuite$Header" "v" "[I") (mu mw_620)) (fun _ h9 => h9) rfl dX0_endPicture_216 ?_
      refine lv_bipush (v := (11 : Int32)) hx hb dX0_endPicture_219 (by decide) ?_
      obtain ⟨b18, ho18, hc18, hk18, hF⟩ := dr_some hF
      refine W_st (st' := [.int (11 : Int32), .ref (ad b18)]) (by rw [va_some ho18]) ?_
      obtain ⟨hvc, hF⟩ := chk_some hF
      refine va_iald hx hb hK hP b18 1 (wld_i ct ad G y15 hc18 hk18) rfl hvc dX0_endPicture_221 ?_
      obtain ⟨x19, ex19, hF⟩ := ltt_some hF
      refine lv_topi (fun zx19 ezx19 => ?_)
      obtain rfl : x19 = zx19 := ex19.trans ezx19.symm
      obtain ⟨y20, hy20, hF⟩ := bnd_some hF
      have J20 : ∀ (H : Heap) (locs : List Loc) (ls : Array Slot), va_P D classes (wld ct ad G y20) H → va_D A (wld ct ad G y20) → va_S A s.heap H locs → lv_has ls 7 [(5, .int x4), (4, va_re ad (M.2 b2 0)), (0, .ref (ad a)), (1, .int p0), (2, .int p1), (3, .int p2)] → W p l e (headSpec wuX0_endPicture ({ frames := 5, cells := 0, slots := 0, locals := 136 })).room s m ([.ref (ad a), .int p0, .int p1, .int p2] : List Value).toArray below meth c H locs 0 0 (MQ below (va_Qv (fun (_ : Unit) => True) (fun _ t => kE D ct ad G A y t) A) ([.ref (ad a), .int p0, .int p1, .int p2] : List Value).toArray s 0 0 A) (F0 m 237 ls []) := by
        intro H locs ls hP hD hS hl
        obtain rfl := Option.some.inj hF
        exact W.vret hx hb hr (fun t ht hW => ⟨⟨(), rfl, trivial, ⟨by rw [ht]; exact hP, va_K.moved hW.alike hK, hD⟩⟩, hS.F ht⟩) hS.2.2 dX0_endPicture_237
      clear hF
      have hF := hy20
      clear hy20
      refine lv_if_eq (tgt := 237) hx hb dX0_endPicture_222 (by decide) (fun c21 => ?_) (fun c21 => ?_)
      · rw [if_pos c21] at hF
        obtain rfl := Option.some.inj hF
        exact J20 _ _ _ hP hD hS (lv_sub hl [0, 1, 2, 3, 4, 5] rfl)
      · rw [if_neg c21] at hF
        refine lv_aload_n hx hb dX0_endPicture_225 rfl (lv_at hl 2 rfl) ?_
        refine va_get (D := D) (ci := 0) (v := va_re ad (y15.2 a 6)) (C := RX0) (T := TX0) (N := 21) hx hb hts (mus hf_X0) hown hK hP a (wld_o ct ad G y15 hc hk (by decide)) rfl 6 (by decide) (hts (.fieldLink RX0 57 "VideoSuite$Coder" "store" "LVideoSuite$Store;") (mu mw_820)) (fun _ h9 => h9) rfl dX0_endPicture_226 ?_
        refine lv_aloadq hx hb dX0_endPicture_229 (lv_at hl 1 rfl) ?_
        obtain ⟨b22, ho22, hc22, hk22, hF⟩ := dr_some hF
        refine W_st (st' := [.ref (ad b22), va_re ad (y15.2 a 6)]) (by rw [va_some ho22]) ?_
        refine va_get (D := D) (ci := 4) (v := .int (y15.1 b22 8)) (C := RX4) (T := TX4) (N := 18) hx hb hts (mus hf_X4) hown hK hP b22 (wld_o ct ad G y15 hc22 hk22 (by decide)) rfl 8 (by decide) (hts (.fieldLink RX0 270 "VideoSuite$Picture" "frame" "I") (mu mw_1452)) (fun _ h9 => h9) rfl dX0_endPicture_231 ?_
        obtain ⟨x23, ex23, hF⟩ := ltt_some hF
        refine lv_topi (fun zx23 ezx23 => ?_)
        obtain rfl : x23 = zx23 := ex23.trans ezx23.symm
        obtain ⟨b24, ho24, hc24, hk24, hF⟩ := dr_some hF
        refine W_st (st' := [.int x23, .ref (ad b24)]) (by rw [va_some ho24]) ?_
        refine va_put (D := D) (ci := 7) (v := .int x23) (ty := .int) (C := RX7) (T := TX7) (N := 17) hx hb hts (mus hf_X7) tyX7 tyX7_ok nmX7 hown hK hP hD hS b24 (wld_o ct ad G y15 hc24 hk24 (by decide)) rfl 5 (by decide) (hts (.fieldLink RX0 255 "VideoSuite$Store" "last" "I") (mu mw_363)) (fun _ h9 => h9) rfl (by decide +kernel) rfl rfl (Nat.le_of_ble_eq_true rfl) dX0_endPicture_234 (fun H locs hP hD hS => ?_)
        obtain ⟨M25, eM25, hF⟩ := ltt_some hF
        rw [set_oI ct ad G y15 hc24 hk24 (by decide) (by rfl), ← eM25] at hP hD
        obtain rfl := Option.some.inj hF
        exact J20 _ _ _ hP hD hS (lv_sub hl [0, 1, 2, 3, 4, 5] rfl)
    clear hF
    have hF := hy9
    clear hy9
    refine lv_icmp_ge (tgt := 179) hx hb dX0_endPicture_61 (by decide) (fun c26 => ?_) (fun c26 => ?_)
    · rw [if_pos c26] at hF
      obtain rfl := Option.some.inj hF
      exact J9 _ _ _ hP hD hS (lv_sub hl [0, 1, 2, 3, 4, 5] rfl)
    · rw [if_neg c26] at hF
      refine lv_bipush (v := (7 : Int32)) hx hb dX0_endPicture_64 (by decide) ?_
      refine lv_aload_n hx hb dX0_endPicture_66 rfl (lv_at hl 2 rfl) ?_
      refine va_get (D := D) (ci := 0) (v := .int (y7.1 a 16)) (C := RX0) (T := TX0) (N := 21) hx hb hts (mus hf_X0) hown hK hP a (wld_o ct ad G y7 hc hk (by decide)) rfl 16 (by decide) (hts (.fieldLink RX0 119 "VideoSuite$Coder" "codedCount" "I") (mu mw_832)) (fun _ h9 => h9) rfl dX0_endPicture_67 ?_
      obtain ⟨x27, ex27, hF⟩ := ltt_some hF
      refine lv_topi (fun zx27 ezx27 => ?_)
      obtain rfl : x27 = zx27 := ex27.trans ezx27.symm
      refine lv_imul hx hb dX0_endPicture_70 ?_
      obtain ⟨x28, ex28, hF⟩ := ltt_some hF
      refine lv_topi (fun zx28 ezx28 => ?_)
      obtain rfl : x28 = zx28 := ex28.trans ezx28.symm
      refine lv_istore (lv' := [(6, .int x28), (5, .int x4), (4, va_re ad (M.2 b2 0)), (0, .ref (ad a)), (1, .int p0), (2, .int p1), (3, .int p2)]) hx hb dX0_endPicture_71 hl (by decide) rfl (fun ls hl => ?_)
      refine lv_aload_n hx hb dX0_endPicture_73 rfl (lv_at hl 3 rfl) ?_
      refine va_get (D := D) (ci := 0) (v := va_re ad (y7.2 a 17)) (C := RX0) (T := TX0) (N := 21) hx hb hts (mus hf_X0) hown hK hP a (wld_o ct ad G y7 hc hk (by decide)) rfl 17 (by decide) (hts (.fieldLink RX0 72 "VideoSuite$Coder" "codedFact" "[I") (mu mw_834)) (fun _ h9 => h9) rfl dX0_endPicture_74 ?_
      refine lv_iload hx hb dX0_endPicture_77 (lv_at hl 0 rfl) ?_
      refine lv_iload_n hx hb dX0_endPicture_79 rfl (lv_at hl 4 rfl) ?_
      obtain ⟨b29, ho29, hc29, hk29, hF⟩ := dr_some hF
      refine W_st (st' := [.int p0, .int x28, .ref (ad b29)]) (by rw [va_some ho29]) ?_
      obtain ⟨hvc, hF⟩ := chk_some hF
      refine va_iast hx hb hK hP hD hS b29 1 (wld_i ct ad G y7 hc29 hk29) rfl hvc dX0_endPicture_80 (fun H locs hP hD hS => ?_)
      obtain ⟨M30, eM30, hF⟩ := ltt_some hF
      rw [set_i ct ad G y7 hc29 hk29, ← eM30] at hP hD
      refine lv_aload_n hx hb dX0_endPicture_81 rfl (lv_at hl 3 rfl) ?_
      refine va_get (D := D) (ci := 0) (v := va_re ad (M30.2 a 17)) (C := RX0) (T := TX0) (N := 21) hx hb hts (mus hf_X0) hown hK hP a (wld_o ct ad G M30 hc hk (by decide)) rfl 17 (by decide) (hts (.fieldLink RX0 72 "VideoSuite$Coder" "codedFact" "[I") (mu mw_834)) (fun _ h9 => h9) rfl dX0_endPicture_82 ?_
      refine lv_iload hx hb dX0_endPicture_85 (lv_at hl 0 rfl) ?_
      refine lv_iconst (v := (1 : Int32)) hx hb dX0_endPicture_87 (by decide) ?_
      refine lv_iadd hx hb dX0_endPicture_88 ?_
      obtain ⟨x31, ex31, hF⟩ := ltt_some hF
      refine lv_topi (fun zx31 ezx31 => ?_)
      obtain rfl : x31 = zx31 := ex31.trans ezx31.symm
      refine lv_iload_n hx hb dX0_endPicture_89 rfl (lv_at hl 5 rfl) ?_
      obtain ⟨b32, ho32, hc32, hk32, hF⟩ := dr_some hF
      refine W_st (st' := [.int p1, .int x31, .ref (ad b32)]) (by rw [va_some ho32]) ?_
      obtain ⟨hvc, hF⟩ := chk_some hF
      refine va_iast hx hb hK hP hD hS b32 1 (wld_i ct ad G M30 hc32 hk32) rfl hvc dX0_endPicture_90 (fun H locs hP hD hS => ?_)
      obtain ⟨M33, eM33, hF⟩ := ltt_some hF
      rw [set_i ct ad G M30 hc32 hk32, ← eM33] at hP hD
      refine lv_aload_n hx hb dX0_endPicture_91 rfl (lv_at hl 3 rfl) ?_
      refine va_get (D := D) (ci := 0) (v := va_re ad (M33.2 a 17)) (C := RX0) (T := TX0) (N := 21) hx hb hts (mus hf_X0) hown hK hP a (wld_o ct ad G M33 hc hk (by decide)) rfl 17 (by decide) (hts (.fieldLink RX0 72 "VideoSuite$Coder" "codedFact" "[I") (mu mw_834)) (fun _ h9 => h9) rfl dX0_endPicture_92 ?_
      refine lv_iload hx hb dX0_endPicture_95 (lv_at hl 0 rfl) ?_
      refine lv_iconst (v := (2 : Int32)) hx hb dX0_endPicture_97 (by decide) ?_
      refine lv_iadd hx hb dX0_endPicture_98 ?_
      obtain ⟨x34, ex34, hF⟩ := ltt_some hF
      refine lv_topi (fun zx34 ezx34 => ?_)
      obtain rfl : x34 = zx34 := ex34.trans ezx34.symm
      refine lv_aload_n hx hb dX0_endPicture_99 rfl (lv_at hl 3 rfl) ?_
      refine va_get (D := D) (ci := 0) (v := va_re ad (M33.2 a 3)) (C := RX0) (T := TX0) (N := 21) hx hb hts (mus hf_X0) hown hK hP a (wld_o ct ad G M33 hc hk (by decide)) rfl 3 (by decide) (hts (.fieldLink RX0 36 "VideoSuite$Coder" "work" "LVideoSuite$Work;") (mu mw_817)) (fun _ h9 => h9) rfl dX0_endPicture_100 ?_
      obtain ⟨b35, ho35, hc35, hk35, hF⟩ := dr_some hF
      refine W_st (st' := [.ref (ad b35), .int x34, va_re ad (M33.2 a 17)]) (by rw [va_some ho35]) ?_
      refine va_get (D := D) (ci := 9) (v := va_re ad (M33.2 b35 1)) (C := RX9) (T := TX9) (N := 20) hx hb hts (mus hf_X9) hown hK hP b35 (wld_o ct ad G M33 hc35 hk35 (by decide)) rfl 1 (by decide) (hts (.fieldLink RX0 81 "VideoSuite$Work" "head" "LVideoSuite$Header;") (mu mw_425)) (fun _ h9 => h9) rfl dX0_endPicture_103 ?_
      obtain ⟨b36, ho36, hc36, hk36, hF⟩ := dr_some hF
      refine W_st (st' := [.ref (ad b36), .int x34, va_re ad (M33.2 a 17)]) (by rw [va_some ho36]) ?_
      refine va_get (D := D) (ci := 3) (v := va_re ad (M33.2 b36 0)) (C := RX3) (T := TX3) (N := 4) hx hb hts (mus hf_X3) hown hK hP b36 (wld_o ct ad G M33 hc36 hk36 (by decide)) rfl 0 (by decide) (hts (.fieldLink RX0 252 "VideoSuite$Header" "v" "[I") (mu mw_620)) (fun _ h9 => h9) rfl dX0_endPicture_106 ?_
      refine lv_iconst (v := (1 : Int32)) hx hb dX0_endPicture_109 (by decide) ?_
      obtain ⟨b37, ho37, hc37, hk37, hF⟩ := dr_some hF
      refine W_st (st' := [.int (1 : Int32), .ref (ad b37), .int x34, va_re ad (M33.2 a 17)]) (by rw [va_some ho37]) ?_
      obtain ⟨hvc, hF⟩ := chk_some hF
      refine va_iald hx hb hK hP b37 1 (wld_i ct ad G M33 hc37 hk37) rfl hvc dX0_endPicture_110 ?_
      obtain ⟨x38, ex38, hF⟩ := ltt_some hF
      refine lv_topi (fun zx38 ezx38 => ?_)
      obtain rfl : x38 = zx38 := ex38.trans ezx38.symm
      obtain ⟨b39, ho39, hc39, hk39, hF⟩ := dr_some hF
      refine W_st (st' := [.int x38, .int x34, .ref (ad b39)]) (by rw [va_some ho39]) ?_
      obtain ⟨hvc, hF⟩ := chk_some hF
      refine va_iast hx hb hK hP hD hS b39 1 (wld_i ct ad G M33 hc39 hk39) rfl hvc dX0_endPicture_111 (fun H locs hP hD hS => ?_)
      obtain ⟨M40, eM40, hF⟩ := ltt_some hF
      rw [set_i ct ad G M33 hc39 hk39, ← eM40] at hP hD
      refine lv_aload_n hx hb dX0_endPicture_112 rfl (lv_at hl 3 rfl) ?_
      refine va_get (D := D) (ci := 0) (v := va_re ad (M40.2 a 17)) (C := RX0) (T := TX0) (N := 21) hx hb hts (mus hf_X0) hown hK hP a (wld_o ct ad G M40 hc hk (by decide)) rfl 17 (by decide) (hts (.fieldLink RX0 72 "VideoSuite$Coder" "codedFact" "[I") (mu mw_834)) (fun _ h9 => h9) rfl dX0_endPicture_113 ?_
      refine lv_iload hx hb dX0_endPicture_116 (lv_at hl 0 rfl) ?_
      refine lv_iconst (v := (3 : Int32)) hx hb dX0_endPicture_118 (by decide) ?_
      refine lv_iadd hx hb dX0_endPicture_119 ?_
      obtain ⟨x41, ex41, hF⟩ := ltt_some hF
      refine lv_topi (fun zx41 ezx41 => ?_)
      obtain rfl : x41 = zx41 := ex41.trans ezx41.symm
      refine lv_iload_n hx hb dX0_endPicture_120 rfl (lv_at hl 6 rfl) ?_
      obtain ⟨b42, ho42, hc42, hk42, hF⟩ := dr_some hF
      refine W_st (st' := [.int p2, .int x41, .ref (ad b42)]) (by rw [va_some ho42]) ?_
      obtain ⟨hvc, hF⟩ := chk_some hF
      refine va_iast hx hb hK hP hD hS b42 1 (wld_i ct ad G M40 hc42 hk42) rfl hvc dX0_endPicture_121 (fun H locs hP hD hS => ?_)
      obtain ⟨M43, eM43, hF⟩ := ltt_some hF
      rw [set_i ct ad G M40 hc42 hk42, ← eM43] at hP hD
      refine lv_aload_n hx hb dX0_endPicture_122 rfl (lv_at hl 3 rfl) ?_
      refine va_get (D := D) (ci := 0) (v := va_re ad (M43.2 a 17)) (C := RX0) (T := TX0) (N := 21) hx hb hts (mus hf_X0) hown hK hP a (wld_o ct ad G M43 hc hk (by decide)) rfl 17 (by decide) (hts (.fieldLink RX0 72 "VideoSuite$Coder" "codedFact" "[I") (mu mw_834)) (fun _ h9 => h9) rfl dX0_endPicture_123 ?_
      refine lv_iload hx hb dX0_endPicture_126 (lv_at hl 0 rfl) ?_
      refine lv_iconst (v := (4 : Int32)) hx hb dX0_endPicture_128 (by decide) ?_
      refine lv_iadd hx hb dX0_endPicture_129 ?_
      obtain ⟨x44, ex44, hF⟩ := ltt_some hF
      refine lv_topi (fun zx44 ezx44 => ?_)
      obtain rfl : x44 = zx44 := ex44.trans ezx44.symm
      refine lv_aloadq hx hb dX0_endPicture_130 (lv_at hl 2 rfl) ?_
      obtain ⟨b45, ho45, hc45, hk45, hF⟩ := dr_some hF
      refine W_st (st' := [.ref (ad b45), .int x44, va_re ad (M43.2 a 17)]) (by rw [va_some ho45]) ?_
      refine va_get (D := D) (ci := 4) (v := .int (M43.1 b45 9)) (C := RX4) (T := TX4) (N := 18) hx hb hts (mus hf_X4) hown hK hP b45 (wld_o ct ad G M43 hc45 hk45 (by decide)) rfl 9 (by decide) (hts (.fieldLink RX0 275 "VideoSuite$Picture" "order" "I") (mu mw_1458)) (fun _ h9 => h9) rfl dX0_endPicture_132 ?_
      obtain ⟨x46, ex46, hF⟩ := ltt_some hF
      refine lv_topi (fun zx46 ezx46 => ?_)
      obtain rfl : x46 = zx46 := ex46.trans ezx46.symm
      obtain ⟨b47, ho47, hc47, hk47, hF⟩ := dr_some hF
      refine W_st (st' := [.int x46, .int x44, .ref (ad b47)]) (by rw [va_some ho47]) ?_
      obtain ⟨hvc, hF⟩ := chk_some hF
      refine va_iast hx hb hK hP hD hS b47 1 (wld_i ct ad G M43 hc47 hk47) rfl hvc dX0_endPicture_135 (fun H locs hP hD hS => ?_)
      obtain ⟨M48, eM48, hF⟩ := ltt_some hF
      rw [set_i ct ad G M43 hc47 hk47, ← eM48] at hP hD
      refine lv_aload_n hx hb dX0_endPicture_136 rfl (lv_at hl 3 rfl) ?_
      refine va_get (D := D) (ci := 0) (v := va_re ad (M48.2 a 17)) (C := RX0) (T := TX0) (N := 21) hx hb hts (mus hf_X0) hown hK hP a (wld_o ct ad G M48 hc hk (by decide)) rfl 17 (by decide) (hts (.fieldLink RX0 72 "VideoSuite$Coder" "codedFact" "[I") (mu mw_834)) (fun _ h9 => h9) rfl dX0_endPicture_137 ?_
      refine lv_iload hx hb dX0_endPicture_140 (lv_at hl 0 rfl) ?_
      refine lv_iconst (v := (5 : Int32)) hx hb dX0_endPicture_142 (by decide) ?_
      refine lv_iadd hx hb dX0_endPicture_143 ?_
      obtain ⟨x49, ex49, hF⟩ := ltt_some hF
      refine lv_topi (fun zx49 ezx49 => ?_)
      obtain rfl : x49 = zx49 := ex49.trans ezx49.symm
      refine lv_aloadq hx hb dX0_endPicture_144 (lv_at hl 2 rfl) ?_
      refine W_st (st' := [.ref (ad b45), .int x49, va_re ad (M48.2 a 17)]) (by rw [va_some ho45]) ?_
      refine va_get (D := D) (ci := 4) (v := va_re ad (M48.2 b45 4)) (C := RX4) (T := TX4) (N := 18) hx hb hts (mus hf_X4) hown hK hP b45 (wld_o ct ad G M48 hc45 hk45 (by decide)) rfl 4 (by decide) (hts (.fieldLink RX0 289 "VideoSuite$Picture" "plane" "[[I") (mu mw_1434)) (fun _ h9 => h9) rfl dX0_endPicture_146 ?_
      refine lv_iconst (v := (0 : Int32)) hx hb dX0_endPicture_149 (by decide) ?_
      obtain ⟨b50, ho50, hc50, hk50, hF⟩ := dr_some hF
      refine W_st (st' := [.int (0 : Int32), .ref (ad b50), .int x49, va_re ad (M48.2 a 17)]) (by rw [va_some ho50]) ?_
      obtain ⟨hvc, hF⟩ := chk_some hF
      refine ld_g hx hb hK hP hc50 hk50 hvc dX0_endPicture_150 ?_
      refine lv_iconst (v := (0 : Int32)) hx hb dX0_endPicture_151 (by decide) ?_
      refine lv_sipush (v := (256 : Int32)) hx hb dX0_endPicture_152 (by decide) ?_
      refine lv_aloadq hx hb dX0_endPicture_155 (lv_at hl 2 rfl) ?_
      refine W_st (st' := [.ref (ad b45), .int (256 : Int32), .int (0 : Int32), va_re ad (M48.2 b50 ((0 : Int32)).toNatClampNeg), .int x49, va_re ad (M48.2 a 17)]) (by rw [va_some ho45]) ?_
      obtain ⟨y51, hy51, hF⟩ := bnd_some hF
      have hf9 := wA_in hD hA9 hS
      refine va_calli (va_runV (As := []) (rest := [.int (256 : Int32), .int (0 : Int32), va_re ad (M48.2 b50 ((0 : Int32)).toNatClampNeg), .int x49, va_re ad (M48.2 a 17)]) ⟨hx, hb, hml, hown, hts⟩ (kX4_blocks l D ct ad Z G M48 H.size b45 y51 hc45 hk45 hy51) (cwV 0 hts gX0_endPicture_X4_blocks rfl rfl rfl (by decide +kernel) ⟨Nat.le_of_ble_eq_true rfl, Nat.le_of_ble_eq_true rfl⟩) ⟨fun a U g mk q => by obtain ⟨q0, q1, qP, qK, qD, qZ, qN⟩ := q; exact ⟨q0, q1, qP, va_K.moved (u := U) (U := U.calling g mk a) (Vm.Alike.refl U.vm) qK, qD, sF.moved (u := U) (U := U.calling g mk a) (Vm.Alike.refl U.vm) qZ, nF.same rfl qN⟩, va_recv hK hP (ci := 4) (q0 := b45) rfl (wld_o ct ad G M48 hc45 hk45 (by decide)), fun U hU hW => ⟨rfl, by rw [hU], by rw [hU]; exact hP, va_K.moved hW.alike hK, hD.weaken (fun _ _ _ _ => trivial), by rw [hU]; exact ((hZ.kept hS.2.1).narrow hf9).moved hW.alike, hN.warm hW⟩⟩ rfl rfl hl.1 rfl (lv_room (by simp only [List.map, va_re_cat]; exact Nat.le_of_ble_eq_true rfl)) dX0_endPicture_157 ⟨(Nat.zero_le _), (Nat.zero_le _)⟩) hS (fun q _ h => hf9 q h) hf9 (fun r u t H locs ht hvm hw hB hz1 hk1 hS => ?_)
      obtain ⟨hP, hK9, hD9⟩ := hB
      rw [ht] at hP
      try dsimp only at hw
      subst hw
      have hD := hD9.weaken (fun _ q _ h => hf9 q.1 h)
      refine lv_imul hx hb dX0_endPicture_160 ?_
      obtain ⟨x52, ex52, hF⟩ := ltt_some hF
      refine lv_topi (fun zx52 ezx52 => ?_)
      obtain rfl : x52 = zx52 := ex52.trans ezx52.symm
      obtain ⟨y53, hy53, hF⟩ := bnd_some hF
      have hf9 := wA_in hD hA9 hS
      refine va_calli (va_runSN (As := [va_re ad (M48.2 b50 ((0 : Int32)).toNatClampNeg), .int (0 : Int32), .int x52]) (rest := [.int x49, va_re ad (M48.2 a 17)]) ⟨hx, hb, hml, hown, hts⟩ (kX11_hash l D ct ad Z G y51.1 H.size ((M48.2 b50 ((0 : Int32)).toNatClampNeg)) ((0 : Int32)) x52 y53 hy53) ⟨va_cnB 3 hts gX0_endPicture_X11_hash_n183 rfl rfl rfl (hN.1 (RX0, 183, yX11_hash, RX11) (List.mem_of_getElem? (i := 2) rfl)) (hts (.initialized RX11) (mu mw_166)) (by decide +kernel) ⟨Nat.le_of_ble_eq_true rfl, Nat.le_of_ble_eq_true rfl⟩, hts (.static yX11_hash) (mu mw_2340), trivial⟩ ⟨fun a U g mk q => by obtain ⟨q0, q1, qP, qK, qD, qZ, qN⟩ := q; exact ⟨q0, q1, qP, va_K.moved (u := U) (U := U.calling g mk a) (Vm.Alike.refl U.vm) qK, qD, sF.moved (u := U) (U := U.calling g mk a) (Vm.Alike.refl U.vm) qZ, nF.same rfl qN⟩, fun U hU hW => ⟨rfl, by rw [hU], by rw [hU]; exact hP, va_K.moved hW.alike hK, hD.weaken (fun _ _ _ _ => trivial), by rw [hU]; exact ((hZ.kept hS.2.1).narrow hf9).moved hW.alike, hN.warm hW⟩⟩ rfl rfl hl.1 rfl (lv_room (by simp only [List.map, va_re_cat]; exact Nat.le_of_ble_eq_true rfl)) dX0_endPicture_161 ⟨(Nat.zero_le _), (Nat.zero_le _)⟩) hS (fun q _ h => hf9 q h) hf9 (fun r u t H locs ht hvm hw hB hz1 hk1 hS => ?_)
      obtain ⟨hP, hK9, hD9⟩ := hB
      rw [ht] at hP
      try dsimp only at hw
      subst hw
      have hD := hD9.weaken (fun _ q _ h => hf9 q.1 h)
      obtain ⟨b54, ho54, hc54, hk54, hF⟩ := dr_some hF
      refine W_st (st' := [.int y53.2, .int x49, .ref (ad b54)]) (by rw [va_some ho54]) ?_
      obtain ⟨hvc, hF⟩ := chk_some hF
      refine va_iast hx hb hK hP hD hS b54 1 (wld_i ct ad G y53.1 hc54 hk54) rfl hvc dX0_endPicture_164 (fun H locs hP hD hS => ?_)
      obtain ⟨M55, eM55, hF⟩ := ltt_some hF
      rw [set_i ct ad G y53.1 hc54 hk54, ← eM55] at hP hD
      refine lv_aload_n hx hb dX0_endPicture_165 rfl (lv_at hl 3 rfl) ?_
      refine va_get (D := D) (ci := 0) (v := va_re ad (M55.2 a 17)) (C := RX0) (T := TX0) (N := 21) hx hb hts (mus hf_X0) hown hK hP a (wld_o ct ad G M55 hc hk (by decide)) rfl 17 (by decide) (hts (.fieldLink RX0 72 "VideoSuite$Coder" "codedFact" "[I") (mu mw_834)) (fun _ h9 => h9) rfl dX0_endPicture_166 ?_
      refine lv_iload hx hb dX0_endPicture_169 (lv_at hl 0 rfl) ?_
      refine lv_bipush (v := (6 : Int32)) hx hb dX0_endPicture_171 (by decide) ?_
      refine lv_iadd hx hb dX0_endPicture_173 ?_
      obtain ⟨x56, ex56, hF⟩ := ltt_some hF
      refine lv_topi (fun zx56 ezx56 => ?_)
      obtain rfl : x56 = zx56 := ex56.trans ezx56.symm
      refine lv_aload_n hx hb dX0_endPicture_174 rfl (lv_at hl 3 rfl) ?_
      refine va_get (D := D) (ci := 0) (v := .int (M55.1 a 15)) (C := RX0) (T := TX0) (N := 21) hx hb hts (mus hf_X0) hown hK hP a (wld_o ct ad G M55 hc hk (by decide)) rfl 15 (by decide) (hts (.fieldLink RX0 116 "VideoSuite$Coder" "reserve" "I") (mu mw_831)) (fun _ h9 => h9) rfl dX0_endPicture_175 ?_
      obtain ⟨x57, ex57, hF⟩ := ltt_some hF
      refine lv_topi (fun zx57 ezx57 => ?_)
      obtain rfl : x57 = zx57 := ex57.trans ezx57.symm
      obtain ⟨b58, ho58, hc58, hk58, hF⟩ := dr_some hF
      refine W_st (st' := [.int x57, .int x56, .ref (ad b58)]) (by rw [va_some ho58]) ?_
      obtain ⟨hvc, hF⟩ := chk_some hF
      refine va_iast hx hb hK hP hD hS b58 1 (wld_i ct ad G M55 hc58 hk58) rfl hvc dX0_endPicture_178 (fun H locs hP hD hS => ?_)
      obtain ⟨M59, eM59, hF⟩ := ltt_some hF
      rw [set_i ct ad G M55 hc58 hk58, ← eM59] at hP hD
      obtain rfl := Option.some.inj hF
      exact J9 _ _ _ hP hD hS (lv_sub hl [1, 2, 3, 4, 5, 6] rfl)
  clear hF
  have hF := hy7
  clear hy7
  refine lv_if_le (tgt := 55) hx hb dX0_endPicture_31 (by decide) (fun c60 => ?_) (fun c60 => ?_)
  · rw [if_pos c60] at hF
    obtain rfl := Option.some.inj hF
    exact J7 _ _ _ hP hD hS (lv_sub hl [0, 1, 2, 3, 4, 5] rfl)
  · rw [if_neg c60] at hF
    refine lv_aload_n hx hb dX0_endPicture_34 rfl (lv_at hl 2 rfl) ?_
    refine lv_iconst (v := (0 : Int32)) hx hb dX0_endPicture_35 (by decide) ?_
    refine lv_iconst (v := (4 : Int32)) hx hb dX0_endPicture_36 (by decide) ?_
    refine lv_iload hx hb dX0_endPicture_37 (lv_at hl 0 rfl) ?_
    refine lv_imul hx hb dX0_endPicture_39 ?_
    obtain ⟨x61, ex61, hF⟩ := ltt_some hF
    refine lv_topi (fun zx61 ezx61 => ?_)
    obtain rfl : x61 = zx61 := ex61.trans ezx61.symm
    refine lv_aload_n hx hb dX0_endPicture_40 rfl (lv_at hl 2 rfl) ?_
    refine va_get (D := D) (ci := 0) (v := .int (y6.1 a 15)) (C := RX0) (T := TX0) (N := 21) hx hb hts (mus hf_X0) hown hK hP a (wld_o ct ad G y6 hc hk (by decide)) rfl 15 (by decide) (hts (.fieldLink RX0 116 "VideoSuite$Coder" "reserve" "I") (mu mw_831)) (fun _ h9 => h9) rfl dX0_endPicture_41 ?_
    obtain ⟨x62, ex62, hF⟩ := ltt_some hF
    refine lv_topi (fun zx62 ezx62 => ?_)
    obtain rfl : x62 = zx62 := ex62.trans ezx62.symm
    refine lv_iload hx hb dX0_endPicture_44 (lv_at hl 0 rfl) ?_
    refine lv_iadd hx hb dX0_endPicture_46 ?_
    obtain ⟨x63, ex63, hF⟩ := ltt_some hF
    refine lv_topi (fun zx63 ezx63 => ?_)
    obtain rfl : x63 = zx63 := ex63.trans ezx63.symm
    refine lv_iload_n hx hb dX0_endPicture_47 rfl (lv_at hl 3 rfl) ?_
    refine lv_isub hx hb dX0_endPicture_48 ?_
    obtain ⟨x64, ex64, hF⟩ := ltt_some hF
    refine lv_topi (fun zx64 ezx64 => ?_)
    obtain rfl : x64 = zx64 := ex64.trans ezx64.symm
    obtain ⟨y65, hy65, hF⟩ := bnd_some hF
    have hf9 := wA_in hD hA9 hS
    refine va_calli (va_runSN (As := [.int (0 : Int32), .int x61, .int x64]) (rest := [.ref (ad a)]) ⟨hx, hb, hml, hown, hts⟩ (kX11_clamp l D ct ad Z G y6 H.size ((0 : Int32)) x61 x64 y65 hy65) ⟨va_cnB 3 hts gX0_endPicture_X11_clamp_n286 rfl rfl rfl (hN.1 (RX0, 286, yX11_clamp, RX11) (List.mem_of_getElem? (i := 5) rfl)) (hts (.initialized RX11) (mu mw_166)) (by decide +kernel) ⟨Nat.le_of_ble_eq_true rfl, Nat.le_of_ble_eq_true rfl⟩, hts (.static yX11_clamp) (mu mw_938), trivial⟩ ⟨fun a U g mk q => by obtain ⟨q0, q1, qP, qK, qD, qZ, qN⟩ := q; exact ⟨q0, q1, qP, va_K.moved (u := U) (U := U.calling g mk a) (Vm.Alike.refl U.vm) qK, qD, sF.moved (u := U) (U := U.calling g mk a) (Vm.Alike.refl U.vm) qZ, nF.same rfl qN⟩, fun U hU hW => ⟨rfl, by rw [hU], by rw [hU]; exact hP, va_K.moved hW.alike hK, hD.weaken (fun _ _ _ _ => trivial), by rw [hU]; exact ((hZ.kept hS.2.1).narrow hf9).moved hW.alike, hN.warm hW⟩⟩ rfl rfl hl.1 rfl (lv_room (Nat.le_of_ble_eq_true rfl)) dX0_endPicture_49 ⟨(Nat.zero_le _), (Nat.zero_le _)⟩) hS (fun q _ h => hf9 q h) hf9 (fun r u t H locs ht hvm hw hB hz1 hk1 hS => ?_)
    obtain ⟨hP, hK9, hD9⟩ := hB
    rw [ht] at hP
    try dsimp only at hw
    subst hw
    have hD := hD9.weaken (fun _ q _ h => hf9 q.1 h)
    refine va_put (D := D) (ci := 0) (v := .int y65.2) (ty := .int) (C := RX0) (T := TX0) (N := 21) hx hb hts (mus hf_X0) tyX0 tyX0_ok nmX0 hown hK hP hD hS a (wld_o ct ad G y65.1 hc hk (by decide)) rfl 15 (by decide) (hts (.fieldLink RX0 116 "VideoSuite$Coder" "reserve" "I") (mu mw_831)) (fun _ h9 => h9) rfl (by decide +kernel) rfl rfl (Nat.le_of_ble_eq_true rfl) dX0_endPicture_52 (fun H locs hP hD hS => ?_)
    obtain ⟨M66, eM66, hF⟩ := ltt_some hF
    rw [set_oI ct ad G y65.1 hc hk (by decide) (by rfl), ← eM66] at hP hD
    obtain rfl := Option.some.inj hF
    exact J7 _ _ _ hP hD hS (lv_sub hl [0, 1, 2, 3, 4, 5] rfl)
set_option maxRecDepth 20000 in
theorem gX0_start_X7_clear : GoodIn wuX0_start (wsV RX0 122 RX7 yX7_clear wuX7_clear) := gu_V mw_1116 mw_1117 mw_1118 mw_170 mw_1119
set_option maxRecDepth 20000 in
set_option maxRecDepth 20000 in
theorem gX0_start_X0_fillSets : GoodIn wuX0_start (wsV RX0 131 RX0 yX0_fillSets wuX0_fillSets) := gu_V mw_1120 mw_1122 mw_24 mw_175 mw_1123
set_option maxRecDepth 20000 in
set_option maxRecDepth 20000 in
theorem gX0_start_X0_paintFlat : GoodIn wuX0_start (wsV RX0 134 RX0 yX0_paintFlat wuX0_paintFlat) := gu_V mw_1127 mw_1128 mw_1129 mw_175 mw_1130
set_option maxRecDepth 20000 in
set_option maxRecDepth 20000 in
theorem gX0_start_X0_writeSequence : GoodIn wuX0_start (wsV RX0 138 RX0 yX0_writeSequence wuX0_writeSequence) := gu_V mw_1131 mw_1133 mw_25 mw_175 mw_1134
set_option maxRecDepth 20000 in
set_option maxRecDepth 20000 in
theorem gX0_start_X0_writeParameters : GoodIn wuX0_start (wsV RX0 141 RX0 yX0_writeParameters wuX0_writeParameters) := gu_V mw_1200 mw_1202 mw_30 mw_175 mw_1203
theorem dX0_start_0 : decode cX0_start 0 = .ok (.aload_n 0, 1) := by decide +kernel
theorem dX0_start_1 : decode cX0_start 1 = .ok (.getfield 20, 3) := by decide +kernel
theorem dX0_start_4 : decode cX0_start 4 = .ok (.iconst 0, 1) := by decide +kernel
theorem dX0_start_5 : decode cX0_start 5 = .ok (.aload_n 0, 1) := by decide +kernel
theorem dX0_start_6 : decode cX0_start 6 = .ok (.getfield 23, 3) := by decide +kernel
theorem dX0_start_9 : decode cX0_start 9 = .ok (.iconst 0, 1) := by decide +kernel
theorem dX0_start_10 : decode cX0_start 10 = .ok (.bipush 24, 2) := by decide +kernel
theorem dX0_start_12 : decode cX0_start 12 = .ok (.invokestatic 94, 3) := by decide +kernel
theorem dX0_start_15 : decode cX0_start 15 = .ok (.aload_n 0, 1) := by decide +kernel
theorem dX0_start_16 : decode cX0_start 16 = .ok (.iconst 0, 1) := by decide +kernel
theorem dX0_start_17 : decode cX0_start 17 = .ok (.putfield 100, 3) := by decide +kernel
theorem dX0_start_20 : decode cX0_start 20 = .ok (.aload_n 0, 1) := by decide +kernel
theorem dX0_start_21 : decode cX0_start 21 = .ok (.iconst 0, 1) := by decide +kernel
theorem dX0_start_22 : decode cX0_start 22 = .ok (.putfield 104, 3) := by decide +kernel
theorem dX0_start_25 : decode cX0_start 25 = .ok (.aload_n 0, 1) := by decide +kernel
theorem dX0_start_26 : decode cX0_start 26 = .ok (.iconst 0, 1) := by decide +kernel
theorem dX0_start_27 : decode cX0_start 27 = .ok (.putfield 107, 3) := by decide +kernel
theorem dX0_start_30 : decode cX0_start 30 = .ok (.aload_n 0, 1) := by decide +kernel
theorem dX0_start_31 : decode cX0_start 31 = .ok (.iconst 0, 1) := by decide +kernel
theorem dX0_start_32 : decode cX0_start 32 = .ok (.putfield 110, 3) := by decide +kernel
theorem dX0_start_35 : decode cX0_start 35 = .ok (.aload_n 0, 1) := by decide +kernel
theorem dX0_start_36 : decode cX0_start 36 = .ok (.aload_n 0, 1) := by decide +kernel
theorem dX0_start_37 : decode cX0_start 37 = .ok (.getfield 23, 3) := by decide +kernel
theorem dX0_start_40 : decode cX0_start 40 = .ok (.bipush 9, 2) := by decide +kernel
theorem dX0_start_42 : decode cX0_start 42 = .ok (.iaload, 1) := by decide +kernel
theorem dX0_start_43 : decode cX0_start 43 = .ok (.putfield 113, 3) := by decide +kernel
theorem dX0_start_46 : decode cX0_start 46 = .ok (.aload_n 0, 1) := by decide +kernel
theorem dX0_start_47 : decode cX0_start 47 = .ok (.iconst 0, 1) := by decide +kernel
theorem dX0_start_48 : decode cX0_start 48 = .ok (.putfield 116, 3) := by decide +kernel
theorem dX0_start_51 : decode cX0_start 51 = .ok (.aload_n 0, 1) := by decide +kernel
theorem dX0_start_52 : decode cX0_start 52 = .ok (.iconst 0, 1) := by decide +kernel
theorem dX0_start_53 : decode cX0_start 53 = .ok (.putfield 119, 3) := by decide +kernel
theorem dX0_start_56 : decode cX0_start 56 = .ok (.aload_n 0, 1) := by decide +kernel
theorem dX0_start_57 : decode cX0_start 57 = .ok (.getfield 57, 3) := by decide +kernel
theorem dX0_start_60 : decode cX0_start 60 = .ok (.invokevirtual 122, 3) := by decide +kernel
theorem dX0_start_63 : decode cX0_start 63 = .ok (.aload_n 0, 1) := by decide +kernel
theorem dX0_start_64 : decode cX0_start 64 = .ok (.getfield 29, 3) := by decide +kernel
theorem dX0_start_67 : decode cX0_start 67 = .ok (.iconst 0, 1) := by decide +kernel
theorem dX0_start_68 : decode cX0_start 68 = .ok (.putfield 125, 3) := by decide +kernel
theorem dX0_start_71 : decode cX0_start 71 = .ok (.aload_n 0, 1) := by decide +kernel
theorem dX0_start_72 : decode cX0_start 72 = .ok (.getfield 29, 3) := by decide +kernel
theorem dX0_start_75 : decode cX0_start 75 = .ok (.iconst 0, 1) := by decide +kernel
theorem dX0_start_76 : decode cX0_start 76 = .ok (.putfield 128, 3) := by decide +kernel
theorem dX0_start_79 : decode cX0_start 79 = .ok (.aload_n 0, 1) := by decide +kernel
theorem dX0_start_80 : decode cX0_start 80 = .ok (.invokevirtual 131, 3) := by decide +kernel
theorem dX0_start_83 : decode cX0_start 83 = .ok (.iconst 0, 1) := by decide +kernel
theorem dX0_start_84 : decode cX0_start 84 = .ok (.istore_n 1, 1) := by decide +kernel
theorem dX0_start_85 : decode cX0_start 85 = .ok (.iload_n 1, 1) := by decide +kernel
theorem dX0_start_86 : decode cX0_start 86 = .ok (.bipush 12, 2) := by decide +kernel
theorem dX0_start_88 : decode cX0_start 88 = .ok (.if_icmp .ge 74, 3) := by decide +kernel
theorem dX0_start_91 : decode cX0_start 91 = .ok (.aload_n 0, 1) := by decide +kernel
theorem dX0_start_92 : decode cX0_start 92 = .ok (.getfield 23, 3) := by decide +kernel
theorem dX0_start_95 : decode cX0_start 95 = .ok (.iconst 0, 1) := by decide +kernel
theorem dX0_start_96 : decode cX0_start 96 = .ok (.iaload, 1) := by decide +kernel
theorem dX0_start_97 : decode cX0_start 97 = .ok (.aload_n 0, 1) := by decide +kernel
theorem dX0_start_98 : decode cX0_start 98 = .ok (.getfield 23, 3) := by decide +kernel
theorem dX0_start_101 : decode cX0_start 101 = .ok (.iconst 1, 1) := by decide +kernel
theorem dX0_start_102 : decode cX0_start 102 = .ok (.iaload, 1) := by decide +kernel
theorem dX0_start_103 : decode cX0_start 103 = .ok (.imul, 1) := by decide +kernel
theorem dX0_start_104 : decode cX0_start 104 = .ok (.iload_n 1, 1) := by decide +kernel
theorem dX0_start_105 : decode cX0_start 105 = .ok (.iconst 3, 1) := by decide +kernel
theorem dX0_start_106 : decode cX0_start 106 = .ok (.irem, 1) := by decide +kernel
theorem dX0_start_107 : decode cX0_start 107 = .ok (.ifCond .ne 9, 3) := by decide +kernel
theorem dX0_start_110 : decode cX0_start 110 = .ok (.sipush 256, 3) := by decide +kernel
theorem dX0_start_113 : decode cX0_start 113 = .ok (.goto 5, 3) := by decide +kernel
theorem dX0_start_116 : decode cX0_start 116 = .ok (.bipush 64, 2) := by decide +kernel
theorem dX0_start_118 : decode cX0_start 118 = .ok (.imul, 1) := by decide +kernel
theorem dX0_start_119 : decode cX0_start 119 = .ok (.istore_n 2, 1) := by decide +kernel
theorem dX0_start_120 : decode cX0_start 120 = .ok (.aload_n 0, 1) := by decide +kernel
theorem dX0_start_121 : decode cX0_start 121 = .ok (.getfield 66, 3) := by decide +kernel
theorem dX0_start_124 : decode cX0_start 124 = .ok (.iload_n 1, 1) := by decide +kernel
theorem dX0_start_125 : decode cX0_start 125 = .ok (.aaload, 1) := by decide +kernel
theorem dX0_start_126 : decode cX0_start 126 = .ok (.arraylength, 1) := by decide +kernel
theorem dX0_start_127 : decode cX0_start 127 = .ok (.iload_n 2, 1) := by decide +kernel
theorem dX0_start_128 : decode cX0_start 128 = .ok (.if_icmp .ge 28, 3) := by decide +kernel
theorem dX0_start_131 : decode cX0_start 131 = .ok (.aload_n 0, 1) := by decide +kernel
theorem dX0_start_132 : decode cX0_start 132 = .ok (.getfield 66, 3) := by decide +kernel
theorem dX0_start_135 : decode cX0_start 135 = .ok (.iload_n 1, 1) := by decide +kernel
theorem dX0_start_136 : decode cX0_start 136 = .ok (.aload_n 0, 1) := by decide +kernel
theorem dX0_start_137 : decode cX0_start 137 = .ok (.getfield 66, 3) := by decide +kernel
theorem dX0_start_140 : decode cX0_start 140 = .ok (.iload_n 1, 1) := by decide +kernel
theorem dX0_start_141 : decode cX0_start 141 = .ok (.aaload, 1) := by decide +kernel
theorem dX0_start_142 : decode cX0_start 142 = .ok (.arraylength, 1) := by decide +kernel
theorem dX0_start_143 : decode cX0_start 143 = .ok (.ifCond .ne 7, 3) := by decide +kernel
theorem dX0_start_146 : decode cX0_start 146 = .ok (.iload_n 2, 1) := by decide +kernel
theorem dX0_start_147 : decode cX0_start 147 = .ok (.goto 6, 3) := by decide +kernel
theorem dX0_start_150 : decode cX0_start 150 = .ok (.sipush 8192, 3) := by decide +kernel
theorem dX0_start_153 : decode cX0_start 153 = .ok (.newarray .int, 2) := by decide +kernel
theorem dX0_start_155 : decode cX0_start 155 = .ok (.aastore, 1) := by decide +kernel
theorem dX0_start_156 : decode cX0_start 156 = .ok (.iinc 1 1, 3) := by decide +kernel
theorem dX0_start_159 : decode cX0_start 159 = .ok (.goto (-74), 3) := by decide +kernel
theorem dX0_start_162 : decode cX0_start 162 = .ok (.aload_n 0, 1) := by decide +kernel
theorem dX0_start_163 : decode cX0_start 163 = .ok (.sipush 128, 3) := by decide +kernel
theorem dX0_start_166 : decode cX0_start 166 = .ok (.sipush 128, 3) := by decide +kernel
theorem dX0_start_169 : decode cX0_start 169 = .ok (.sipush 128, 3) := by decide +kernel
theorem dX0_start_172 : decode cX0_start 172 = .ok (.invokevirtual 134, 3) := by decide +kernel
theorem dX0_start_175 : decode cX0_start 175 = .ok (.aload_n 0, 1) := by decide +kernel
theorem dX0_start_176 : decode cX0_start 176 = .ok (.invokevirtual 138, 3) := by decide +kernel
theorem dX0_start_179 : decode cX0_start 179 = .ok (.aload_n 0, 1) := by decide +kernel
theorem dX0_start_180 : decode cX0_start 180 = .ok (.invokevirtual 141, 3) := by decide +kernel
theorem dX0_start_183 : decode cX0_start 183 = .ok (.return_, 1) := by decide +kernel
noncomputable def FX0_start (G : GG) (M : DD) (a : Nat)  : Option (NN × DD) :=
  dr (xt G []) 13 ((M.2 a 0)) fun b2 =>
  dr (xt G []) 13 ((M.2 a 1)) fun b3 =>
  chk (¬ ((0 : Int32)) < 0 ∧ ¬ ((0 : Int32)) < 0 ∧ ¬ ((24 : Int32)) < 0 ∧ ((0 : Int32)).toNatClampNeg + ((24 : Int32)).toNatClampNeg ≤ (xt G []).2.2 b2 ∧ ((0 : Int32)).toNatClampNeg + ((24 : Int32)).toNatClampNeg ≤ (xt G []).2.2 b3) <|
  ltt (rI M b3 (va_cpy (M.1 b2) (M.1 b3) ((0 : Int32)).toNatClampNeg ((0 : Int32)).toNatClampNeg ((24 : Int32)).toNatClampNeg)) fun M4 =>
  ltt (uI M4 a 10 ((0 : Int32))) fun M5 =>
  ltt (uI M5 a 11 ((0 : Int32))) fun M6 =>
  ltt (uI M6 a 12 ((0 : Int32))) fun M7 =>
  ltt (uI M7 a 13 ((0 : Int32))) fun M8 =>
  dr (xt G []) 13 ((M8.2 a 1)) fun b9 =>
  chk (¬ (((9 : Int32)) < 0 ∨ (xt G []).2.2 b9 ≤ ((9 : Int32)).toNatClampNeg)) <|
  ltt (M8.1 b9 ((9 : Int32)).toNatClampNeg) fun x10 =>
  ltt (uI M8 a 14 x10) fun M11 =>
  ltt (uI M11 a 15 ((0 : Int32))) fun M12 =>
  ltt (uI M12 a 16 ((0 : Int32))) fun M13 =>
  dr (xt G []) 7 ((M13.2 a 6)) fun b14 =>
  bnd (FX7_clear (xt G []) M13 b14) fun y15 =>
  dr (xt G []) 10 ((y15.2 a 2)) fun b16 =>
  ltt (uI y15 b16 1 ((0 : Int32))) fun M17 =>
  dr (xt G []) 10 ((M17.2 a 2)) fun b18 =>
  ltt (uI M17 b18 2 ((0 : Int32))) fun M19 =>
  bnd (FX0_fillSets (xt G []) M19 a) fun y20 =>
  bnd (itrA (fun (s22 : NN × Int32 × DD) => ((if ((12 : Int32)) ≤ s22.2.1 then (some ([], .inr ((s22.2.1, s22.2.2)))) else
  (dr (xt G s22.1) 13 ((s22.2.2.2 a 1)) fun b43 =>
  chk (¬ (((0 : Int32)) < 0 ∨ (xt G s22.1).2.2 b43 ≤ ((0 : Int32)).toNatClampNeg)) <|
  ltt (s22.2.2.1 b43 ((0 : Int32)).toNatClampNeg) fun x44 =>
  chk (¬ (((1 : Int32)) < 0 ∨ (xt G s22.1).2.2 b43 ≤ ((1 : Int32)).toNatClampNeg)) <|
  ltt (s22.2.2.1 b43 ((1 : Int32)).toNatClampNeg) fun x45 =>
  ltt ((x44 * x45)) fun x46 =>
  ltt (s22.2.1 - s22.2.1 / ((3 : Int32)) * ((3 : Int32))) fun x47 =>
  bnd (if x47 = ((0 : Int32)) then (some ((256 : Int32))) else
  (some ((64 : Int32)))) fun (y48 : Int32) =>
  ltt ((x46 * y48)) fun x49 =>
  dr (xt G s22.1) 15 ((s22.2.2.2 a 8)) fun b50 =>
  chk (¬ (s22.2.1 < 0 ∨ (xt G s22.1).2.2 b50 ≤ s22.2.1.toNatClampNeg)) <|
  dr (xt G s22.1) 13 ((s22.2.2.2 b50 s22.2.1.toNatClampNeg)) fun b51 =>
  ltt (Int32.ofNat ((xt G s22.1).2.2 b51)) fun x52 =>
  bnd (if x49 ≤ x52 then (some ([], s22.2.2)) else
  (chk (¬ (s22.2.1 < 0 ∨ (xt G s22.1).2.2 b50 ≤ s22.2.1.toNatClampNeg)) <|
  ltt (Int32.ofNat ((xt G s22.1).2.2 b51)) fun x60 =>
  bnd (if x60 = ((0 : Int32)) then (some (x49)) else
  (some ((8192 : Int32)))) fun (y61 : Int32) =>
  chkP (Clo (xt G s22.1) s22.2.2) <|
  chk (¬ y61 < 0 ∧ y61.toNatClampNeg * 4 ≤ 536870912) <|
  ltt ((xt G s22.1).1) fun c63 =>
  app [(13, y61.toNatClampNeg)] <|
  ltt (s22.1 ++ [(13, y61.toNatClampNeg)]) fun L65 =>
  ltt (rO s22.2.2 c63) fun M66 =>
  chk (¬ (s22.2.1 < 0 ∨ (xt G L65).2.2 b50 ≤ s22.2.1.toNatClampNeg)) <|
  ltt (uP M66 b50 s22.2.1.toNatClampNeg (some c63)) fun M69 =>
  some ([], M69))) fun (y53 : NN × DD) =>
  app y53.1 <|
  ltt (s22.1 ++ y53.1) fun L55 =>
  ltt (s22.2.1 + (1 : Int32)) fun x57 =>
  some ([], .inl (L55, (x57, y53.2))))) : Option (NN × ((NN × Int32 × DD) ⊕ (Int32 × DD))))) 1000000 ([], ((0 : Int32), y20))) fun (y21 : NN × Int32 × DD) =>
  app y21.1 <|
  ltt ([] ++ y21.1) fun L24 =>
  bnd (FX0_paintFlat (xt G L24) y21.2.2 a ((128 : Int32)) ((128 : Int32)) ((128 : Int32))) fun y26 =>
  bnd (FX0_writeSequence (xt G L24) y26 a) fun y27 =>
  app y27.1 <|
  ltt (L24 ++ y27.1) fun L29 =>
  bnd (FX0_writeParameters (xt G L29) y27.2 a) fun y32 =>
  app y32.1 <|
  ltt (L29 ++ y32.1) fun L34 =>
  some ([], y32.2)
set_option maxHeartbeats 4000000 in
set_option maxRecDepth 100000 in
theorem kX0_start (l : Launch) (D : va_G) (ct : CT) (ad : Nat → Nat) (Z : Nat → Nat) (G : GG) (M : DD) (sz : Nat) (a : Nat)  (y : NN × DD) (hc : a < G.1) (hk : G.2.1 a = 0) (hF : FX0_start G M a  = some y) : Met l yX0_start wuX0_start ({ frames := 7, cells := y.1.length, slots := wt y.1, locals := 218 }) (va_Pc [.ref (ad a)] (kB D ct ad Z G M sz)) (va_Qv (fun (u : Nat → Nat) => agr G.1 ad u) (fun u t => kE D ct u (xt G y.1) (wA ad G sz) y.2 t) (wA ad G sz)) y.1.length (wt y.1) (wA ad G sz) := by
  refine Met.ofW (cc := cX0_start) (maxL := 3) (ret := none) (by decide) rfl ?_
  intro p e s m args below meth c s₁ B hml hv
  obtain ⟨rfl, hsz, hP, hK, hD0, hZ, hN⟩ := hv
  have hx := B.exec
  have hb := B.bytes
  have hr := B.returns
  have hts := atoms_spec (ws := wuX0_start) B.pre
  have hown : s.vm.findClass RX0 = some m.cls := findClass_of_methodNamed B.named
  have hlocks := B.notSynchronized
  subst hsz
  have hD := wD_self (sz := s.heap.size) hD0
  have hA9 : ∀ q, s.heap.size ≤ q → wA ad G s.heap.size q := fun q h => Or.inr h
  generalize hAe : wA ad G s.heap.size = A at hD hA9 hZ ⊢
  have hS : va_S A s.heap s.heap [] := va_S.rf
  have hl := lv_entry ([.ref (ad a)]) (n := 3) (Nat.le_of_ble_eq_true rfl)
  rw [lg_entry_eq]
  generalize (lg_sl ([.ref (ad a)]) ++ List.replicate (3 - (lg_sl ([.ref (ad a)])).length) Slot.unset).toArray = ls at hl ⊢
  have hl : lv_has ls 3 [(0, .ref (ad a))] := hl
  unfold FX0_start at hF
  rw [← wld_0 ct ad G M] at hP hD
  have hk := xt_k0 hc hk
  have hc := xt_l0 hc
  have hag := agr_rf G.1 ad
  obtain ⟨w0, hw0⟩ : ∃ z, z = y := ⟨_, rfl⟩
  rw [← hw0] at hF
  have hT : y.1 = [] ++ w0.1 := by rw [hw0]; rfl
  have h2 : y.2 = w0.2 := by rw [hw0]
  have hbl : y.1.length ≤ y.1.length ∧ wt y.1 ≤ wt y.1 := ⟨Nat.le_refl _, Nat.le_refl _⟩
  refine lv_aload_n hx hb dX0_start_0 rfl (lv_at hl 0 rfl) ?_
  refine va_get (D := D) (ci := 0) (v := va_re ad (M.2 a 0)) (C := RX0) (T := TX0) (N := 21) hx hb hts (mus hf_X0) hown hK hP a (wld_o ct ad (xt G []) M hc hk (by decide)) rfl 0 (by decide) (hts (.fieldLink RX0 20 "VideoSuite$Coder" "setting" "[I") (mu mw_811)) (fun _ h9 => h9) rfl dX0_start_1 ?_
  refine lv_iconst (v := (0 : Int32)) hx hb dX0_start_4 (by decide) ?_
  refine lv_aload_n hx hb dX0_start_5 rfl (lv_at hl 0 rfl) ?_
  refine va_get (D := D) (ci := 0) (v := va_re ad (M.2 a 1)) (C := RX0) (T := TX0) (N := 21) hx hb hts (mus hf_X0) hown hK hP a (wld_o ct ad (xt G []) M hc hk (by decide)) rfl 1 (by decide) (hts (.fieldLink RX0 23 "VideoSuite$Coder" "now" "[I") (mu mw_813)) (fun _ h9 => h9) rfl dX0_start_6 ?_
  refine lv_iconst (v := (0 : Int32)) hx hb dX0_start_9 (by decide) ?_
  refine lv_bipush (v := (24 : Int32)) hx hb dX0_start_10 (by decide) ?_
  obtain ⟨b2, ho2, hc2, hk2, hF⟩ := dr_some hF
  refine W_st (st' := [.int (24 : Int32), .int (0 : Int32), va_re ad (M.2 a 1), .int (0 : Int32), .ref (ad b2)]) (by rw [va_some ho2]) ?_
  obtain ⟨b3, ho3, hc3, hk3, hF⟩ := dr_some hF
  refine W_st (st' := [.int (24 : Int32), .int (0 : Int32), .ref (ad b3), .int (0 : Int32), .ref (ad b2)]) (by rw [va_some ho3]) ?_
  obtain ⟨hv9, hF⟩ := chk_some hF
  refine va_copyi (ty := .int) hx hb (hml.trans hl.1.symm) hown (hts (.methodLink RX0 94 arraycopyName) (mu mw_1115)) (hts (.native arraycopyName) (mu mw_1093)) (hts (.static arraycopyName) (mu mw_1092)) (hts (.initialized "java/lang/System") (mu mw_181)) hK hP hD hS b2 b3 1 1 (wld_i ct ad (xt G []) M hc2 hk2) (wld_i ct ad (xt G []) M hc3 hk3) rfl rfl rfl hv9.1 hv9.2.1 hv9.2.2.1 hv9.2.2.2.1 hv9.2.2.2.2 (fun _ _ => rfl) (Nat.le_of_ble_eq_true rfl) (show _ ≤ _ from (by decide +kernel : 0 + (nativeFrameWords "java/lang/System" "arraycopy" 5 + 11) ≤ 218)) dX0_start_12 (fun H locs hP hD hS => ?_)
  obtain ⟨M4, eM4, hF⟩ := ltt_some hF
  rw [set_ri ct ad (xt G []) M hc3 hk3, ← eM4] at hP hD
  refine lv_aload_n hx hb dX0_start_15 rfl (lv_at hl 0 rfl) ?_
  refine lv_iconst (v := (0 : Int32)) hx hb dX0_start_16 (by decide) ?_
  refine va_put (D := D) (ci := 0) (v := .int (0 : Int32)) (ty := .int) (C := RX0) (T := TX0) (N := 21) hx hb hts (mus hf_X0) tyX0 tyX0_ok nmX0 hown hK hP hD hS a (wld_o ct ad (xt G []) M4 hc hk (by decide)) rfl 10 (by decide) (hts (.fieldLink RX0 100 "VideoSuite$Coder" "waiting" "I") (mu mw_824)) (fun _ h9 => h9) rfl (by decide +kernel) rfl rfl (Nat.le_of_ble_eq_true rfl) dX0_start_17 (fun H locs hP hD hS => ?_)
  obtain ⟨M5, eM5, hF⟩ := ltt_some hF
  rw [set_oI ct ad (xt G []) M4 hc hk (by decide) (by rfl), ← eM5] at hP hD
  refine lv_aload_n hx hb dX0_start_20 rfl (lv_at hl 0 rfl) ?_
  refine lv_iconst (v := (0 : Int32)) hx hb dX0_start_21 (by decide) ?_
  refine va_put (D := D) (ci := 0) (v := .int (0 : Int32)) (ty := .int) (C := RX0) (T := TX0) (N := 21) hx hb hts (mus hf_X0) tyX0 tyX0_ok nmX0 hown hK hP hD hS a (wld_o ct ad (xt G []) M5 hc hk (by decide)) rfl 11 (by decide) (hts (.fieldLink RX0 104 "VideoSuite$Coder" "come" "I") (mu mw_826)) (fun _ h9 => h9) rfl (by decide +kernel) rfl rfl (Nat.le_of_ble_eq_true rfl) dX0_start_22 (fun H locs hP hD hS => ?_)
  obtain ⟨M6, eM6, hF⟩ := ltt_some hF
  rw [set_oI ct ad (xt G []) M5 hc hk (by decide) (by rfl), ← eM6] at hP hD
  refine lv_aload_n hx hb dX0_start_25 rfl (lv_at hl 0 rfl) ?_
  refine lv_iconst (v := (0 : Int32)) hx hb dX0_start_26 (by decide) ?_
  refine va_put (D := D) (ci := 0) (v := .int (0 : Int32)) (ty := .int) (C := RX0) (T := TX0) (N := 21) hx hb hts (mus hf_X0) tyX0 tyX0_ok nmX0 hown hK hP hD hS a (wld_o ct ad (xt G []) M6 hc hk (by decide)) rfl 12 (by decide) (hts (.fieldLink RX0 107 "VideoSuite$Coder" "ownAt" "I") (mu mw_827)) (fun _ h9 => h9) rfl (by decide +kernel) rfl rfl (Nat.le_of_ble_eq_true rfl) dX0_start_27 (fun H locs hP hD hS => ?_)
  obtain ⟨M7, eM7, hF⟩ := ltt_some hF
  rw [set_oI ct ad (xt G []) M6 hc hk (by decide) (by rfl), ← eM7] at hP hD
  refine lv_aload_n hx hb dX0_start_30 rfl (lv_at hl 0 rfl) ?_
  refine lv_iconst (v := (0 : Int32)) hx hb dX0_start_31 (by decide) ?_
  refine va_put (D := D) (ci := 0) (v := .int (0 : Int32)) (ty := .int) (C := RX0) (T := TX0) (N := 21) hx hb hts (mus hf_X0) tyX0 tyX0_ok nmX0 hown hK hP hD hS a (wld_o ct ad (xt G []) M7 hc hk (by decide)) rfl 13 (by decide) (hts (.fieldLink RX0 110 "VideoSuite$Coder" "ownId" "I") (mu mw_828)) (fun _ h9 => h9) rfl (by decide +kernel) rfl rfl (Nat.le_of_ble_eq_true rfl) dX0_start_32 (fun H locs hP hD hS => ?_)
  obtain ⟨M8, eM8, hF⟩ := ltt_some hF
  rw [set_oI ct ad (xt G []) M7 hc hk (by decide) (by rfl), ← eM8] at hP hD
  refine lv_aload_n hx hb dX0_start_35 rfl (lv_at hl 0 rfl) ?_
  refine lv_aload_n hx hb dX0_start_36 rfl (lv_at hl 0 rfl) ?_
  refine va_get (D := D) (ci := 0) (v := va_re ad (M8.2 a 1)) (C := RX0) (T := TX0) (N := 21) hx hb hts (mus hf_X0) hown hK hP a (wld_o ct ad (xt G []) M8 hc hk (by decide)) rfl 1 (by decide) (hts (.fieldLink RX0 23 "VideoSuite$Coder" "now" "[I") (mu mw_813)) (fun _ h9 => h9) rfl dX0_start_37 ?_
  refine lv_bipush (v := (9 : Int32)) hx hb dX0_start_40 (by decide) ?_
  obtain ⟨b9, ho9, hc9, hk9, hF⟩ := dr_some hF
  refine W_st (st' := [.int (9 : Int32), .ref (ad b9), .ref (ad a)]) (by rw [va_some ho9]) ?_
  obtain ⟨hvc, hF⟩ := chk_some hF
  refine va_iald hx hb hK hP b9 1 (wld_i ct ad (xt G []) M8 hc9 hk9) rfl hvc dX0_start_42 ?_
  obtain ⟨x10, ex10, hF⟩ := ltt_some hF
  refine lv_topi (fun zx10 ezx10 => ?_)
  obtain rfl : x10 = zx10 := ex10.trans ezx10.symm
  refine va_put (D := D) (ci := 0) (v := .int x10) (ty := .int) (C := RX0) (T := TX0) (N := 21) hx hb hts (mus hf_X0) tyX0 tyX0_ok nmX0 hown hK hP hD hS a (wld_o ct ad (xt G []) M8 hc hk (by decide)) rfl 14 (by decide) (hts (.fieldLink RX0 113 "VideoSuite$Coder" "chance" "I") (mu mw_829)) (fun _ h9 => h9) rfl (by decide +kernel) rfl rfl (Nat.le_of_ble_eq_true rfl) dX0_start_43 (fun H locs hP hD hS => ?_)
  obtain ⟨M11, eM11, hF⟩ := ltt_some hF
  rw [set_oI ct ad (xt G []) M8 hc hk (by decide) (by rfl), ← eM11] at hP hD
  refine lv_aload_n hx hb dX0_start_46 rfl (lv_at hl 0 rfl) ?_
  refine lv_iconst (v := (0 : Int32)) hx hb dX0_start_47 (by decide) ?_
  refine va_put (D := D) (ci := 0) (v := .int (0 : Int32)) (ty := .int) (C := RX0) (T := TX0) (N := 21) hx hb hts (mus hf_X0) tyX0 tyX0_ok nmX0 hown hK hP hD hS a (wld_o ct ad (xt G []) M11 hc hk (by decide)) rfl 15 (by decide) (hts (.fieldLink RX0 116 "VideoSuite$Coder" "reserve" "I") (mu mw_831)) (fun _ h9 => h9) rfl (by decide +kernel) rfl rfl (Nat.le_of_ble_eq_true rfl) dX0_start_48 (fun H locs hP hD hS => ?_)
  obtain ⟨M12, eM12, hF⟩ := ltt_some hF
  rw [set_oI ct ad (xt G []) M11 hc hk (by decide) (by rfl), ← eM12] at hP hD
  refine lv_aload_n hx hb dX0_start_51 rfl (lv_at hl 0 rfl) ?_
  refine lv_iconst (v := (0 : Int32)) hx hb dX0_start_52 (by decide) ?_
  refine va_put (D := D) (ci := 0) (v := .int (0 : Int32)) (ty := .int) (C := RX0) (T := TX0) (N := 21) hx hb hts (mus hf_X0) tyX0 tyX0_ok nmX0 hown hK hP hD hS a (wld_o ct ad (xt G []) M12 hc hk (by decide)) rfl 16 (by decide) (hts (.fieldLink RX0 119 "VideoSuite$Coder" "codedCount" "I") (mu mw_832)) (fun _ h9 => h9) rfl (by decide +kernel) rfl rfl (Nat.le_of_ble_eq_true rfl) dX0_start_53 (fun H locs hP hD hS => ?_)
  obtain ⟨M13, eM13, hF⟩ := ltt_some hF
  rw [set_oI ct ad (xt G []) M12 hc hk (by decide) (by rfl), ← eM13] at hP hD
  refine lv_aload_n hx hb dX0_start_56 rfl (lv_at hl 0 rfl) ?_
  refine va_get (D := D) (ci := 0) (v := va_re ad (M13.2 a 6)) (C := RX0) (T := TX0) (N := 21) hx hb hts (mus hf_X0) hown hK hP a (wld_o ct ad (xt G []) M13 hc hk (by decide)) rfl 6 (by decide) (hts (.fieldLink RX0 57 "VideoSuite$Coder" "store" "LVideoSuite$Store;") (mu mw_820)) (fun _ h9 => h9) rfl dX0_start_57 ?_
  obtain ⟨b14, ho14, hc14, hk14, hF⟩ := dr_some hF
  refine W_st (st' := [.ref (ad b14)]) (by rw [va_some ho14]) ?_
  obtain ⟨y15, hy15, hF⟩ := bnd_some hF
  have hf9 := wA_in hD hA9 hS
  refine va_callv (va_runV (As := []) (rest := []) ⟨hx, hb, hml, hown, hts⟩ (kX7_clear l D ct ad Z (xt G []) M13 H.size b14 y15 hc14 hk14 hy15) (cwV 0 hts gX0_start_X7_clear rfl rfl rfl (by decide +kernel) ⟨Nat.le_of_ble_eq_true rfl, Nat.le_of_ble_eq_true rfl⟩) ⟨fun a U g mk q => by obtain ⟨q0, q1, qP, qK, qD, qZ, qN⟩ := q; exact ⟨q0, q1, qP, va_K.moved (u := U) (U := U.calling g mk a) (Vm.Alike.refl U.vm) qK, qD, sF.moved (u := U) (U := U.calling g mk a) (Vm.Alike.refl U.vm) qZ, nF.same rfl qN⟩, va_recv hK hP (ci := 7) (q0 := b14) rfl (wld_o ct ad (xt G []) M13 hc14 hk14 (by decide)), fun U hU hW => ⟨rfl, by rw [hU], by rw [hU]; exact hP, va_K.moved hW.alike hK, hD.weaken (fun _ _ _ _ => trivial), by rw [hU]; exact ((hZ.kept hS.2.1).narrow hf9).moved hW.alike, hN.warm hW⟩⟩ rfl rfl hl.1 rfl (lv_room (Nat.le_of_ble_eq_true rfl)) dX0_start_60 (room_d hT hbl)) hS (fun q _ h => hf9 q h) hf9 (fun u t H locs ht hvm hw hB hz1 hk1 hS => ?_)
  obtain ⟨hP, hK9, hD9⟩ := hB
  rw [ht] at hP
  refine W_cs (k := ([] : NN).length) (n := wt []) rfl rfl ?_
  have hD := hD9.weaken (fun _ q _ h => hf9 q.1 h)
  refine lv_aload_n hx hb dX0_start_63 rfl (lv_at hl 0 rfl) ?_
  refine va_get (D := D) (ci := 0) (v := va_re ad (y15.2 a 2)) (C := RX0) (T := TX0) (N := 21) hx hb hts (mus hf_X0) hown hK hP a (wld_o ct ad (xt G []) y15 hc hk (by decide)) rfl 2 (by decide) (hts (.fieldLink RX0 29 "VideoSuite$Coder" "writer" "LVideoSuite$Writer;") (mu mw_815)) (fun _ h9 => h9) rfl dX0_start_64 ?_
  refine lv_iconst (v := (0 : Int32)) hx hb dX0_start_67 (by decide) ?_
  obtain ⟨b16, ho16, hc16, hk16, hF⟩ := dr_some hF
  refine W_st (st' := [.int (0 : Int32), .ref (ad b16)]) (by rw [va_some ho16]) ?_
  refine va_put (D := D) (ci := 10) (v := .int (0 : Int32)) (ty := .int) (C := RX10) (T := TX10) (N := 20) hx hb hts (mus hf_X10) tyX10 tyX10_ok nmX10 hown hK hP hD hS b16 (wld_o ct ad (xt G []) y15 hc16 hk16 (by decide)) rfl 1 (by decide) (hts (.fieldLink RX0 125 "VideoSuite$Writer" "length" "I") (mu mw_738)) (fun _ h9 => h9) rfl (by decide +kernel) rfl rfl (Nat.le_of_ble_eq_true rfl) dX0_start_68 (fun H locs hP hD hS => ?_)
  obtain ⟨M17, eM17, hF⟩ := ltt_some hF
  rw [set_oI ct ad (xt G []) y15 hc16 hk16 (by decide) (by rfl), ← eM17] at hP hD
  refine lv_aload_n hx hb dX0_start_71 rfl (lv_at hl 0 rfl) ?_
  refine va_get (D := D) (ci := 0) (v := va_re ad (M17.2 a 2)) (C := RX0) (T := TX0) (N := 21) hx hb hts (mus hf_X0) hown hK hP a (wld_o ct ad (xt G []) M17 hc hk (by decide)) rfl 2 (by decide) (hts (.fieldLink RX0 29 "VideoSuite$Coder" "writer" "LVideoSuite$Writer;") (mu mw_815)) (fun _ h9 => h9) rfl dX0_start_72 ?_
  refine lv_iconst (v := (0 : Int32)) hx hb dX0_start_75 (by decide) ?_
  obtain ⟨b18, ho18, hc18, hk18, hF⟩ := dr_some hF
  refine W_st (st' := [.int (0 : Int32), .ref (ad b18)]) (by rw [va_some ho18]) ?_
  refine va_put (D := D) (ci := 10) (v := .int (0 : Int32)) (ty := .int) (C := RX10) (T := TX10) (N := 20) hx hb hts (mus hf_X10) tyX10 tyX10_ok nmX10 hown hK hP hD hS b18 (wld_o ct ad (xt G []) M17 hc18 hk18 (by decide)) rfl 2 (by decide) (hts (.fieldLink RX0 128 "VideoSuite$Writer" "units" "I") (mu mw_741)) (fun _ h9 => h9) rfl (by decide +kernel) rfl rfl (Nat.le_of_ble_eq_true rfl) dX0_start_76 (fun H locs hP hD hS => ?_)
  obtain ⟨M19, eM19, hF⟩ := ltt_some hF
  rw [set_oI ct ad (xt G []) M17 hc18 hk18 (by decide) (by rfl), ← eM19] at hP hD
  refine lv_aload_n hx hb dX0_start_79 rfl (lv_at hl 0 rfl) ?_
  obtain ⟨y20, hy20, hF⟩ := bnd_some hF
  have hf9 := wA_in hD hA9 hS
  refine va_callv (va_runV (As := []) (rest := []) ⟨hx, hb, hml, hown, hts⟩ (kX0_fillSets l D ct ad Z (xt G []) M19 H.size a y20 hc hk hy20) (cwV 0 hts gX0_start_X0_fillSets rfl rfl rfl (by decide +kernel) ⟨Nat.le_of_ble_eq_true rfl, Nat.le_of_ble_eq_true rfl⟩) ⟨fun a U g mk q => by obtain ⟨q0, q1, qP, qK, qD, qZ, qN⟩ := q; exact ⟨q0, q1, qP, va_K.moved (u := U) (U := U.calling g mk a) (Vm.Alike.refl U.vm) qK, qD, sF.moved (u := U) (U := U.calling g mk a) (Vm.Alike.refl U.vm) qZ, nF.same rfl qN⟩, va_recv hK hP (ci := 0) (q0 := a) rfl (wld_o ct ad (xt G []) M19 hc hk (by decide)), fun U hU hW => ⟨rfl, by rw [hU], by rw [hU]; exact hP, va_K.moved hW.alike hK, hD.weaken (fun _ _ _ _ => trivial), by rw [hU]; exact ((hZ.kept hS.2.1).narrow hf9).moved hW.alike, hN.warm hW⟩⟩ rfl rfl hl.1 rfl (lv_room (Nat.le_of_ble_eq_true rfl)) dX0_start_80 (room_d hT hbl)) hS (fun q _ h => hf9 q h) hf9 (fun u t H locs ht hvm hw hB hz1 hk1 hS => ?_)
  obtain ⟨hP, hK9, hD9⟩ := hB
  rw [ht] at hP
  refine W_cs (k := ([] : NN).length) (n := wt []) rfl rfl ?_
  have hD := hD9.weaken (fun _ q _ h => hf9 q.1 h)
  refine lv_iconst (v := (0 : Int32)) hx hb dX0_start_83 (by decide) ?_
  refine lv_istore_n (lv' := [(1, .int (0 : Int32)), (0, .ref (ad a))]) hx hb dX0_start_84 rfl hl (by decide) rfl (fun ls hl => ?_)
  obtain ⟨y21, hy21, hF⟩ := bnd_some hF
  obtain ⟨w23, hF, ew23⟩ := app_some hF
  obtain ⟨L24, eL24, hF⟩ := ltt_some hF
  have hT24 : y.1 = ([] ++ y21.1) ++ w23.1 := by rw [hT, ew23]; simp only [List.append_assoc]
  have hbl24 : L24.length ≤ y.1.length ∧ wt L24 ≤ wt y.1 := by rw [eL24]; exact room_d hT24 hbl
  have K21 : ∀ (ad25 : Nat → Nat), agr G.1 ad ad25 → ∀ (H : Heap) (locs : List Loc) (ls : Array Slot), va_P D classes (wld ct ad25 (xt G L24) y21.2.2) H → va_D A (wld ct ad25 (xt G L24) y21.2.2) → va_S A s.heap H locs → lv_has ls 3 [(0, .ref (ad25 a))] → W p l e (headSpec wuX0_start ({ frames := 7, cells := y.1.length, slots := wt y.1, locals := 218 })).room s m ([.ref (ad a)] : List Value).toArray below meth c H locs (L24 : NN).length (wt L24) (MQ below (va_Qv (fun (u : Nat → Nat) => agr G.1 ad u) (fun u t => kE D ct u (xt G y.1) A y.2 t) A) ([.ref (ad a)] : List Value).toArray s y.1.length (wt y.1) A) (F0 m 162 ls []) := by
    intro ad25 hag H locs ls hP hD hS hl
    have hT : y.1 = L24 ++ w23.1 := by rw [hT24, eL24]
    have h2 : y.2 = w23.2 := by rw [h2, ew23]
    have hk : (xt G L24).2.1 a = 0 := by rw [eL24]; exact xt_k _ hc hk
    have hc : a < (xt G L24).1 := by rw [eL24]; exact xt_l _ hc
    have hk2 : (xt G L24).2.1 b2 = 13 := by rw [eL24]; exact xt_k _ hc2 hk2
    have hc2 : b2 < (xt G L24).1 := by rw [eL24]; exact xt_l _ hc2
    have hk3 : (xt G L24).2.1 b3 = 13 := by rw [eL24]; exact xt_k _ hc3 hk3
    have hc3 : b3 < (xt G L24).1 := by rw [eL24]; exact xt_l _ hc3
    have hk9 : (xt G L24).2.1 b9 = 13 := by rw [eL24]; exact xt_k _ hc9 hk9
    have hc9 : b9 < (xt G L24).1 := by rw [eL24]; exact xt_l _ hc9
    have hk14 : (xt G L24).2.1 b14 = 7 := by rw [eL24]; exact xt_k _ hc14 hk14
    have hc14 : b14 < (xt G L24).1 := by rw [eL24]; exact xt_l _ hc14
    have hk16 : (xt G L24).2.1 b16 = 10 := by rw [eL24]; exact xt_k _ hc16 hk16
    have hc16 : b16 < (xt G L24).1 := by rw [eL24]; exact xt_l _ hc16
    have hk18 : (xt G L24).2.1 b18 = 10 := by rw [eL24]; exact xt_k _ hc18 hk18
    have hc18 : b18 < (xt G L24).1 := by rw [eL24]; exact xt_l _ hc18
    refine lv_aload_n hx hb dX0_start_162 rfl (lv_at hl 0 rfl) ?_
    refine lv_sipush (v := (128 : Int32)) hx hb dX0_start_163 (by decide) ?_
    refine lv_sipush (v := (128 : Int32)) hx hb dX0_start_166 (by decide) ?_
    refine lv_sipush (v := (128 : Int32)) hx hb dX0_start_169 (by decide) ?_
    obtain ⟨y26, hy26, hF⟩ := bnd_some hF
    have hf9 := wA_in hD hA9 hS
    refine va_callv (va_runV (As := [.int (128 : Int32), .int (128 : Int32), .int (128 : Int32)]) (rest := []) ⟨hx, hb, hml, hown, hts⟩ (kX0_paintFlat l D ct ad25 Z (xt G L24) y21.2.2 H.size a ((128 : Int32)) ((128 : Int32)) ((128 : Int32)) y26 hc hk hy26) (cwV 3 hts gX0_start_X0_paintFlat rfl rfl rfl (by decide +kernel) ⟨Nat.le_of_ble_eq_true rfl, Nat.le_of_ble_eq_true rfl⟩) ⟨fun a U g mk q => by obtain ⟨q0, q1, qP, qK, qD, qZ, qN⟩ := q; exact ⟨q0, q1, qP, va_K.moved (u := U) (U := U.calling g mk a) (Vm.Alike.refl U.vm) qK, qD, sF.moved (u := U) (U := U.calling g mk a) (Vm.Alike.refl U.vm) qZ, nF.same rfl qN⟩, va_recv hK hP (ci := 0) (q0 := a) rfl (wld_o ct ad25 (xt G L24) y21.2.2 hc hk (by decide)), fun U hU hW => ⟨rfl, by rw [hU], by rw [hU]; exact hP, va_K.moved hW.alike hK, hD.weaken (fun _ _ _ _ => trivial), by rw [hU]; exact ((hZ.kept hS.2.1).narrow hf9).moved hW.alike, hN.warm hW⟩⟩ rfl rfl hl.1 rfl (lv_room (Nat.le_of_ble_eq_true rfl)) dX0_start_172 (room_d hT hbl)) hS (fun q _ h => hf9 q h) hf9 (fun u t H locs ht hvm hw hB hz1 hk1 hS => ?_)
    obtain ⟨hP, hK9, hD9⟩ := hB
    rw [ht] at hP
    refine W_cs (k := (L24 : NN).length) (n := wt L24) rfl rfl ?_
    have hD := hD9.weaken (fun _ q _ h => hf9 q.1 h)
    refine lv_aload_n hx hb dX0_start_175 rfl (lv_at hl 0 rfl) ?_
    obtain ⟨y27, hy27, hF⟩ := bnd_some hF
    obtain ⟨w28, hF, ew28⟩ := app_some hF
    obtain ⟨L29, eL29, hF⟩ := ltt_some hF
    have hT29 : y.1 = (L24 ++ y27.1) ++ w28.1 := by rw [hT, ew28]; simp only [List.append_assoc]
    have hf9 := wA_in hD hA9 hS
    refine va_callv (va_runV (As := []) (rest := []) ⟨hx, hb, hml, hown, hts⟩ (kX0_writeSequence l D ct ad25 Z (xt G L24) y26 _ a y27 hc hk hy27) (cwV 0 hts gX0_start_X0_writeSequence rfl rfl rfl (by decide +kernel) ⟨Nat.le_of_ble_eq_true rfl, Nat.le_of_ble_eq_true rfl⟩) ⟨fun a U g mk q => by obtain ⟨q0, q1, qP, qK, qD, qZ, qN⟩ := q; exact ⟨q0, q1, qP, va_K.moved (u := U) (U := U.calling g mk a) (Vm.Alike.refl U.vm) qK, qD, sF.moved (u := U) (U := U.calling g mk a) (Vm.Alike.refl U.vm) qZ, nF.same rfl qN⟩, va_recv hK hP (ci := 0) (q0 := a) rfl (wld_o ct ad25 (xt G L24) y26 hc hk (by decide)), fun U hU hW => ⟨rfl, by rw [hU], by rw [hU]; exact hP, va_K.moved hW.alike hK, hD.weaken (fun _ _ _ _ => trivial), by rw [hU]; exact ((hZ.kept hS.2.1).narrow hf9).moved hW.alike, hN.warm hW⟩⟩ rfl rfl hl.1 rfl (lv_room (Nat.le_of_ble_eq_true rfl)) dX0_start_176 (room_s hT29 hbl)) hS (fun q _ h => hf9 q h) hf9 (fun ad30 t H locs ht hvm hw hB hz1 hk1 hS => ?_)
    have hn31 := hw
    obtain ⟨hP, hK9, hD9⟩ := hB
    rw [ht] at hP
    have hD := hD9.weaken (fun _ q _ h => hf9 q.1 h)
    rw [xt_xt, ← eL29] at hP hD
    refine W_cs (k := L29.length) (n := wt L29) (by rw [eL29]; exact (len_s L24 y27.1).symm) (by rw [eL29]; exact (wt_app L24 y27.1).symm) ?_
    have hT : y.1 = L29 ++ w28.1 := by rw [hT29, eL29]
    have h2 : y.2 = w28.2 := by rw [h2, ew28]
    have hl := lv_sub (l' := [(0, .ref (ad25 a))]) hl [0] rfl
    have e9 : ([(0, .ref (ad25 a))] : List (Nat × Value)) = [(0, .ref (ad30 a))] := (by first | rfl | simp only [hn31 a hc])
    rw [e9] at hl
    clear e9
    have hk : (xt G L29).2.1 a = 0 := by rw [eL29]; exact xt_k _ hc hk
    have hc : a < (xt G L29).1 := by rw [eL29]; exact xt_l _ hc
    have hk2 : (xt G L29).2.1 b2 = 13 := by rw [eL29]; exact xt_k _ hc2 hk2
    have hc2 : b2 < (xt G L29).1 := by rw [eL29]; exact xt_l _ hc2
    have hk3 : (xt G L29).2.1 b3 = 13 := by rw [eL29]; exact xt_k _ hc3 hk3
    have hc3 : b3 < (xt G L29).1 := by rw [eL29]; exact xt_l _ hc3
    have hk9 : (xt G L29).2.1 b9 = 13 := by rw [eL29]; exact xt_k _ hc9 hk9
    have hc9 : b9 < (xt G L29).1 := by rw [eL29]; exact xt_l _ hc9
    have hk14 : (xt G L29).2.1 b14 = 7 := by rw [eL29]; exact xt_k _ hc14 hk14
    have hc14 : b14 < (xt G L29).1 := by rw [eL29]; exact xt_l _ hc14
    have hk16 : (xt G L29).2.1 b16 = 10 := by rw [eL29]; exact xt_k _ hc16 hk16
    have hc16 : b16 < (xt G L29).1 := by rw [eL29]; exact xt_l _ hc16
    have hk18 : (xt G L29).2.1 b18 = 10 := by rw [eL29]; exact xt_k _ hc18 hk18
    have hc18 : b18 < (xt G L29).1 := by rw [eL29]; exact xt_l _ hc18
    have hag := agr_t (xt_ge _ _) hag hn31
    refine lv_aload_n hx hb dX0_start_179 rfl (lv_at hl 0 rfl) ?_
    obtain ⟨y32, hy32, hF⟩ := bnd_some hF
    obtain ⟨w33, hF, ew33⟩ := app_some hF
    obtain ⟨L34, eL34, hF⟩ := ltt_some hF
    have hT34 : y.1 = (L29 ++ y32.1) ++ w33.1 := by rw [hT, ew33]; simp only [List.append_assoc]
    have hf9 := wA_in hD hA9 hS
    refine va_callv (va_runV (As := []) (rest := []) ⟨hx, hb, hml, hown, hts⟩ (kX0_writeParameters l D ct ad30 Z (xt G L29) y27.2 _ a y32 hc hk hy32) (cwV 0 hts gX0_start_X0_writeParameters rfl rfl rfl (by decide +kernel) ⟨Nat.le_of_ble_eq_true rfl, Nat.le_of_ble_eq_true rfl⟩) ⟨fun a U g mk q => by obtain ⟨q0, q1, qP, qK, qD, qZ, qN⟩ := q; exact ⟨q0, q1, qP, va_K.moved (u := U) (U := U.calling g mk a) (Vm.Alike.refl U.vm) qK, qD, sF.moved (u := U) (U := U.calling g mk a) (Vm.Alike.refl U.vm) qZ, nF.same rfl qN⟩, va_recv hK hP (ci := 0) (q0 := a) rfl (wld_o ct ad30 (xt G L29) y27.2 hc hk (by decide)), fun U hU hW => ⟨rfl, by rw [hU], by rw [hU]; exact hP, va_K.moved hW.alike hK, hD.weaken (fun _ _ _ _ => trivial), by rw [hU]; exact ((hZ.kept hS.2.1).narrow hf9).moved hW.alike, hN.warm hW⟩⟩ rfl rfl hl.1 rfl (lv_room (Nat.le_of_ble_eq_true rfl)) dX0_start_180 (room_s hT34 hbl)) hS (fun q _ h => hf9 q h) hf9 (fun ad35 t H locs ht hvm hw hB hz1 hk1 hS => ?_)
    have hn36 := hw
    obtain ⟨hP, hK9, hD9⟩ := hB
    rw [ht] at hP
    have hD := hD9.weaken (fun _ q _ h => hf9 q.1 h)
    rw [xt_xt, ← eL34] at hP hD
    refine W_cs (k := L34.length) (n := wt L34) (by rw [eL34]; exact (len_s L29 y32.1).symm) (by rw [eL34]; exact (wt_app L29 y32.1).symm) ?_
    have hT : y.1 = L34 ++ w33.1 := by rw [hT34, eL34]
    have h2 : y.2 = w33.2 := by rw [h2, ew33]
    have hl := lv_sub (l' := []) hl [] rfl
    have hk : (xt G L34).2.1 a = 0 := by rw [eL34]; exact xt_k _ hc hk
    have hc : a < (xt G L34).1 := by rw [eL34]; exact xt_l _ hc
    have hk2 : (xt G L34).2.1 b2 = 13 := by rw [eL34]; exact xt_k _ hc2 hk2
    have hc2 : b2 < (xt G L34).1 := by rw [eL34]; exact xt_l _ hc2
    have hk3 : (xt G L34).2.1 b3 = 13 := by rw [eL34]; exact xt_k _ hc3 hk3
    have hc3 : b3 < (xt G L34).1 := by rw [eL34]; exact xt_l _ hc3
    have hk9 : (xt G L34).2.1 b9 = 13 := by rw [eL34]; exact xt_k _ hc9 hk9
    have hc9 : b9 < (xt G L34).1 := by rw [eL34]; exact xt_l _ hc9
    have hk14 : (xt G L34).2.1 b14 = 7 := by rw [eL34]; exact xt_k _ hc14 hk14
    have hc14 : b14 < (xt G L34).1 := by rw [eL34]; exact xt_l _ hc14
    have hk16 : (xt G L34).2.1 b16 = 10 := by rw [eL34]; exact xt_k _ hc16 hk16
    have hc16 : b16 < (xt G L34).1 := by rw [eL34]; exact xt_l _ hc16
    have hk18 : (xt G L34).2.1 b18 = 10 := by rw [eL34]; exact xt_k _ hc18 hk18
    have hc18 : b18 < (xt G L34).1 := by rw [eL34]; exact xt_l _ hc18
    have hag := agr_t (xt_ge _ _) hag hn36
    obtain rfl := Option.some.inj hF
    have e1 : y.1 = L34 := by rw [hT]; exact List.append_nil _
    have e2 : y.2 = y32.2 := h2
    refine W.widen (k := y.1.length) (n := wt y.1) (Nat.le_of_eq (by rw [e1])) (Nat.le_of_eq (by rw [e1])) ?_
    exact W.vret hx hb hr (fun t ht hW => ⟨⟨ad35, rfl, hag, (by unfold kE; rw [e1, e2]; exact ⟨by rw [ht]; exact hP, va_K.moved hW.alike hK, hD⟩)⟩, hS.F ht⟩) hS.2.2 dX0_start_183
  clear hF
  refine itrA_rule (fun (s22 : NN × Int32 × DD) (r38 : NN) => (∃ t, s22.1 = [] ++ t) → L24 = s22.1 ++ r38 → ∀ (ad37 : Nat → Nat), agr G.1 ad ad37 → ∀ (H : Heap) (locs : List Loc) (ls : Array Slot), va_P D classes (wld ct ad37 (xt G s22.1) s22.2.2) H → va_D A (wld ct ad37 (xt G s22.1) s22.2.2) → va_S A s.heap H locs → lv_has ls 3 [(1, .int s22.2.1), (0, .ref (ad37 a))] → W p l e (headSpec wuX0_start ({ frames := 7, cells := y.1.length, slots := wt y.1, locals := 218 })).room s m ([.ref (ad a)] : List Value).toArray below meth c H locs (s22.1 : NN).length (wt s22.1) (MQ below (va_Qv (fun (u : Nat → Nat) => agr G.1 ad u) (fun u t => kE D ct u (xt G y.1) A y.2 t) A) ([.ref (ad a)] : List Value).toArray s y.1.length (wt y.1) A) (F0 m 85 ls [])) ?_ _ _ _ hy21 ⟨[], (List.append_nil _).symm⟩ eL24 _ hag _ _ _ hP hD hS (lv_sub hl [0, 1] rfl)
  rintro s22 r38 ⟨z39, hF, ⟨t21, et21⟩, hwz39⟩ ⟨u21, eu21⟩ eq21 ad37 hag H locs ls hP hD hS hl
  try dsimp only at hF
  obtain ⟨L40, eL40⟩ : ∃ x, x = s22.1 ++ z39.1 := ⟨_, rfl⟩
  obtain ⟨w41, hw41⟩ : ∃ x, x = z39 := ⟨_, rfl⟩
  rw [← hw41] at hF
  have hbl : L40.length ≤ y.1.length ∧ wt L40 ≤ wt y.1 := room_d (show L24 = L40 ++ t21 by rw [eq21, et21, eL40]; simp only [List.append_assoc]) hbl24
  have hT : L40 = s22.1 ++ w41.1 := by rw [eL40, hw41]
  have h2 : z39.2 = w41.2 := by rw [hw41]
  have hk : (xt G s22.1).2.1 a = 0 := by rw [eu21]; exact xt_k _ hc hk
  have hc : a < (xt G s22.1).1 := by rw [eu21]; exact xt_l _ hc
  have hk2 : (xt G s22.1).2.1 b2 = 13 := by rw [eu21]; exact xt_k _ hc2 hk2
  have hc2 : b2 < (xt G s22.1).1 := by rw [eu21]; exact xt_l _ hc2
  have hk3 : (xt G s22.1).2.1 b3 = 13 := by rw [eu21]; exact xt_k _ hc3 hk3
  have hc3 : b3 < (xt G s22.1).1 := by rw [eu21]; exact xt_l _ hc3
  have hk9 : (xt G s22.1).2.1 b9 = 13 := by rw [eu21]; exact xt_k _ hc9 hk9
  have hc9 : b9 < (xt G s22.1).1 := by rw [eu21]; exact xt_l _ hc9
  have hk14 : (xt G s22.1).2.1 b14 = 7 := by rw [eu21]; exact xt_k _ hc14 hk14
  have hc14 : b14 < (xt G s22.1).1 := by rw [eu21]; exact xt_l _ hc14
  have hk16 : (xt G s22.1).2.1 b16 = 10 := by rw [eu21]; exact xt_k _ hc16 hk16
  have hc16 : b16 < (xt G s22.1).1 := by rw [eu21]; exact xt_l _ hc16
  have hk18 : (xt G s22.1).2.1 b18 = 10 := by rw [eu21]; exact xt_k _ hc18 hk18
  have hc18 : b18 < (xt G s22.1).1 := by rw [eu21]; exact xt_l _ hc18
  refine lv_iload_n hx hb dX0_start_85 rfl (lv_at hl 0 rfl) ?_
  refine lv_bipush (v := (12 : Int32)) hx hb dX0_start_86 (by decide) ?_
  refine lv_icmp_ge (tgt := 162) hx hb dX0_start_88 (by decide) (fun c42 => ?_) (fun c42 => ?_)
  · rw [if_pos c42] at hF
    obtain rfl := Option.some.inj hF
    have e1 : L40 = s22.1 := by rw [hT]; exact List.append_nil _
    have e2 : z39.2 = .inr ((s22.2.1, s22.2.2)) := h2
    rw [e2] at hwz39
    obtain ⟨hw1, hw2⟩ := hwz39
    have e8 : L24 = s22.1 := by rw [eq21, hw2, ← eL40, e1]
    rw [e8] at K21
    try rw [← hw1] at K21
    exact K21 _ hag _ _ _ hP hD hS (lv_sub hl [1] rfl)
  · rw [if_neg c42] at hF
    refine lv_aload_n hx hb dX0_start_91 rfl (lv_at hl 1 rfl) ?_
    refine va_get (D := D) (ci := 0) (v := va_re ad37 (s22.2.2.2 a 1)) (C := RX0) (T := TX0) (N := 21) hx hb hts (mus hf_X0) hown hK hP a (wld_o ct ad37 (xt G s22.1) s22.2.2 hc hk (by decide)) rfl 1 (by decide) (hts (.fieldLink RX0 23 "VideoSuite$Coder" "now" "[I") (mu mw_813)) (fun _ h9 => h9) rfl dX0_start_92 ?_
    refine lv_iconst (v := (0 : Int32)) hx hb dX0_start_95 (by decide) ?_
    obtain ⟨b43, ho43, hc43, hk43, hF⟩ := dr_some hF
    refine W_st (st' := [.int (0 : Int32), .ref (ad37 b43)]) (by rw [va_some ho43]) ?_
    obtain ⟨hvc, hF⟩ := chk_some hF
    refine va_iald hx hb hK hP b43 1 (wld_i ct ad37 (xt G s22.1) s22.2.2 hc43 hk43) rfl hvc dX0_start_96 ?_
    obtain ⟨x44, ex44, hF⟩ := ltt_some hF
    refine lv_topi (fun zx44 ezx44 => ?_)
    obtain rfl : x44 = zx44 := ex44.trans ezx44.symm
    refine lv_aload_n hx hb dX0_start_97 rfl (lv_at hl 1 rfl) ?_
    refine va_get (D := D) (ci := 0) (v := va_re ad37 (s22.2.2.2 a 1)) (C := RX0) (T := TX0) (N := 21) hx hb hts (mus hf_X0) hown hK hP a (wld_o ct ad37 (xt G s22.1) s22.2.2 hc hk (by decide)) rfl 1 (by decide) (hts (.fieldLink RX0 23 "VideoSuite$Coder" "now" "[I") (mu mw_813)) (fun _ h9 => h9) rfl dX0_start_98 ?_
    refine lv_iconst (v := (1 : Int32)) hx hb dX0_start_101 (by decide) ?_
    refine W_st (st' := [.int (1 : Int32), .ref (ad37 b43), .int x44]) (by rw [va_some ho43]) ?_
    obtain ⟨hvc, hF⟩ := chk_some hF
    refine va_iald hx hb hK hP b43 1 (wld_i ct ad37 (xt G s22.1) s22.2.2 hc43 hk43) rfl hvc dX0_start_102 ?_
    obtain ⟨x45, ex45, hF⟩ := ltt_some hF
    refine lv_topi (fun zx45 ezx45 => ?_)
    obtain rfl : x45 = zx45 := ex45.trans ezx45.symm
    refine lv_imul hx hb dX0_start_103 ?_
    obtain ⟨x46, ex46, hF⟩ := ltt_some hF
    refine lv_topi (fun zx46 ezx46 => ?_)
    obtain rfl : x46 = zx46 := ex46.trans ezx46.symm
    refine lv_iload_n hx hb dX0_start_104 rfl (lv_at hl 0 rfl) ?_
    refine lv_iconst (v := (3 : Int32)) hx hb dX0_start_105 (by decide) ?_
    refine lv_irem hx hb dX0_start_106 (by decide) ?_
    obtain ⟨x47, ex47, hF⟩ := ltt_some hF
    refine lv_topi (fun zx47 ezx47 => ?_)
    obtain rfl : x47 = zx47 := ex47.trans ezx47.symm
    obtain ⟨y48, hy48, hF⟩ := bnd_some hF
    have J48 : ∀ (H : Heap) (locs : List Loc) (ls : Array Slot), va_P D classes (wld ct ad37 (xt G s22.1) s22.2.2) H → va_D A (wld ct ad37 (xt G s22.1) s22.2.2) → va_S A s.heap H locs → lv_has ls 3 [(1, .int s22.2.1), (0, .ref (ad37 a))] → W p l e (headSpec wuX0_start ({ frames := 7, cells := y.1.length, slots := wt y.1, locals := 218 })).room s m ([.ref (ad a)] : List Value).toArray below meth c H locs (s22.1 : NN).length (wt s22.1) (MQ below (va_Qv (fun (u : Nat → Nat) => agr G.1 ad u) (fun u t => kE D ct u (xt G y.1) A y.2 t) A) ([.ref (ad a)] : List Value).toArray s y.1.length (wt y.1) A) (F0 m 118 ls [.int y48, .int x46]) := by
      intro H locs ls hP hD hS hl
      refine lv_imul hx hb dX0_start_118 ?_
      obtain ⟨x49, ex49, hF⟩ := ltt_some hF
      refine lv_topi (fun zx49 ezx49 => ?_)
      obtain rfl : x49 = zx49 := ex49.trans ezx49.symm
      refine lv_istore_n (lv' := [(2, .int x49), (1, .int s22.2.1), (0, .ref (ad37 a))]) hx hb dX0_start_119 rfl hl (by decide) rfl (fun ls hl => ?_)
      refine lv_aload_n hx hb dX0_start_120 rfl (lv_at hl 2 rfl) ?_
      refine va_get (D := D) (ci := 0) (v := va_re ad37 (s22.2.2.2 a 8)) (C := RX0) (T := TX0) (N := 21) hx hb hts (mus hf_X0) hown hK hP a (wld_o ct ad37 (xt G s22.1) s22.2.2 hc hk (by decide)) rfl 8 (by decide) (hts (.fieldLink RX0 66 "VideoSuite$Coder" "planes" "[[I") (mu mw_822)) (fun _ h9 => h9) rfl dX0_start_121 ?_
      refine lv_iload_n hx hb dX0_start_124 rfl (lv_at hl 1 rfl) ?_
      obtain ⟨b50, ho50, hc50, hk50, hF⟩ := dr_some hF
      refine W_st (st' := [.int s22.2.1, .ref (ad37 b50)]) (by rw [va_some ho50]) ?_
      obtain ⟨hvc, hF⟩ := chk_some hF
      refine ld_g hx hb hK hP hc50 hk50 hvc dX0_start_125 ?_
      obtain ⟨b51, ho51, hc51, hk51, hF⟩ := dr_some hF
      refine W_st (st' := [.ref (ad37 b51)]) (by rw [va_some ho51]) ?_
      refine va_alen (v := Int32.ofNat ((xt G s22.1).2.2 b51)) hx hb hK hP b51 1 (wld_i ct ad37 (xt G s22.1) s22.2.2 hc51 hk51) rfl rfl dX0_start_126 ?_
      obtain ⟨x52, ex52, hF⟩ := ltt_some hF
      refine lv_topi (fun zx52 ezx52 => ?_)
      obtain rfl : x52 = zx52 := ex52.trans ezx52.symm
      refine lv_iload_n hx hb dX0_start_127 rfl (lv_at hl 0 rfl) ?_
      obtain ⟨y53, hy53, hF⟩ := bnd_some hF
      obtain ⟨w54, hF, ew54⟩ := app_some hF
      obtain ⟨L55, eL55, hF⟩ := ltt_some hF
      have hT55 : L40 = (s22.1 ++ y53.1) ++ w54.1 := by rw [hT, ew54]; simp only [List.append_assoc]
      have hbl55 : L55.length ≤ y.1.length ∧ wt L55 ≤ wt y.1 := by rw [eL55]; exact room_d hT55 hbl
      have J53 : ∀ (ad56 : Nat → Nat), agr G.1 ad ad56 → ∀ (H : Heap) (locs : List Loc) (ls : Array Slot), va_P D classes (wld ct ad56 (xt G L55) y53.2) H → va_D A (wld ct ad56 (xt G L55) y53.2) → va_S A s.heap H locs → lv_has ls 3 [(1, .int s22.2.1), (0, .ref (ad56 a))] → W p l e (headSpec wuX0_start ({ frames := 7, cells := y.1.length, slots := wt y.1, locals := 218 })).room s m ([.ref (ad a)] : List Value).toArray below meth c H locs (L55 : NN).length (wt L55) (MQ below (va_Qv (fun (u : Nat → Nat) => agr G.1 ad u) (fun u t => kE D ct u (xt G y.1) A y.2 t) A) ([.ref (ad a)] : List Value).toArray s y.1.length (wt y.1) A) (F0 m 156 ls []) := by
        intro ad56 hag H locs ls hP hD hS hl
        have hT : L40 = L55 ++ w54.1 := by rw [hT55, eL55]
        have h2 : z39.2 = w54.2 := by rw [h2, ew54]
        have hk : (xt G L55).2.1 a = 0 := by rw [eL55]; exact xt_k _ hc hk
        have hc : a < (xt G L55).1 := by rw [eL55]; exact xt_l _ hc
        have hk2 : (xt G L55).2.1 b2 = 13 := by rw [eL55]; exact xt_k _ hc2 hk2
        have hc2 : b2 < (xt G L55).1 := by rw [eL55]; exact xt_l _ hc2
        have hk3 : (xt G L55).2.1 b3 = 13 := by rw [eL55]; exact xt_k _ hc3 hk3
        have hc3 : b3 < (xt G L55).1 := by rw [eL55]; exact xt_l _ hc3
        have hk9 : (xt G L55).2.1 b9 = 13 := by rw [eL55]; exact xt_k _ hc9 hk9
        have hc9 : b9 < (xt G L55).1 := by rw [eL55]; exact xt_l _ hc9
        have hk14 : (xt G L55).2.1 b14 = 7 := by rw [eL55]; exact xt_k _ hc14 hk14
        have hc14 : b14 < (xt G L55).1 := by rw [eL55]; exact xt_l _ hc14
        have hk16 : (xt G L55).2.1 b16 = 10 := by rw [eL55]; exact xt_k _ hc16 hk16
        have hc16 : b16 < (xt G L55).1 := by rw [eL55]; exact xt_l _ hc16
        have hk18 : (xt G L55).2.1 b18 = 10 := by rw [eL55]; exact xt_k _ hc18 hk18
        have hc18 : b18 < (xt G L55).1 := by rw [eL55]; exact xt_l _ hc18
        have hk43 : (xt G L55).2.1 b43 = 13 := by rw [eL55]; exact xt_k _ hc43 hk43
        have hc43 : b43 < (xt G L55).1 := by rw [eL55]; exact xt_l _ hc43
        have hk50 : (xt G L55).2.1 b50 = 15 := by rw [eL55]; exact xt_k _ hc50 hk50
        have hc50 : b50 < (xt G L55).1 := by rw [eL55]; exact xt_l _ hc50
        have hk51 : (xt G L55).2.1 b51 = 13 := by rw [eL55]; exact xt_k _ hc51 hk51
        have hc51 : b51 < (xt G L55).1 := by rw [eL55]; exact xt_l _ hc51
        obtain ⟨x57, ex57, hF⟩ := ltt_some hF
        refine lv_iinc (v := x57) (lv' := [(1, .int x57), (0, .ref (ad56 a))]) hx hb dX0_start_156 hl (k := 0) rfl (by rw [ex57]; rfl) (by decide) rfl (fun ls hl => ?_)
        refine lv_goto (tgt := 85) hx hb dX0_start_159 (by decide) ?_
        obtain rfl := Option.some.inj hF
        have e1 : L40 = L55 := by rw [hT]; exact List.append_nil _
        have e2 : z39.2 = .inl (L55, (x57, y53.2)) := h2
        rw [e2] at hwz39
        obtain ⟨r2, er2, hwz39⟩ := hwz39
        exact hwz39 ⟨u21 ++ z39.1, by show L55 = _; rw [← e1, eL40, eu21]; simp only [List.append_assoc]⟩ (by show L24 = L55 ++ r2; rw [eq21, er2, ← e1, eL40]; simp only [List.append_assoc]) _ hag _ _ _ hP hD hS (lv_sub hl [0, 1] rfl)
      clear hF
      obtain ⟨w58, hw58⟩ : ∃ z, z = y53 := ⟨_, rfl⟩
      have hF := hy53
      rw [← hw58] at hF
      clear hy53
      have hT : L55 = s22.1 ++ w58.1 := by rw [eL55, hw58]
      have h2 : y53.2 = w58.2 := by rw [hw58]
      have hbl := hbl55
      refine lv_icmp_ge (tgt := 156) hx hb dX0_start_128 (by decide) (fun c59 => ?_) (fun c59 => ?_)
      · rw [if_pos c59] at hF
        obtain rfl := Option.some.inj hF
        have e1 : L55 = s22.1 := by rw [hT]; exact List.append_nil _
        have e2 : y53.2 = s22.2.2 := h2
        rw [e1] at J53
        try rw [e2] at J53
        exact J53 _ hag _ _ _ hP hD hS (lv_sub hl [1, 2] rfl)
      · rw [if_neg c59] at hF
        refine lv_aload_n hx hb dX0_start_131 rfl (lv_at hl 2 rfl) ?_
        refine va_get (D := D) (ci := 0) (v := va_re ad37 (s22.2.2.2 a 8)) (C := RX0) (T := TX0) (N := 21) hx hb hts (mus hf_X0) hown hK hP a (wld_o ct ad37 (xt G s22.1) s22.2.2 hc hk (by decide)) rfl 8 (by decide) (hts (.fieldLink RX0 66 "VideoSuite$Coder" "planes" "[[I") (mu mw_822)) (fun _ h9 => h9) rfl dX0_start_132 ?_
        refine lv_iload_n hx hb dX0_start_135 rfl (lv_at hl 1 rfl) ?_
        refine lv_aload_n hx hb dX0_start_136 rfl (lv_at hl 2 rfl) ?_
        refine va_get (D := D) (ci := 0) (v := va_re ad37 (s22.2.2.2 a 8)) (C := RX0) (T := TX0) (N := 21) hx hb hts (mus hf_X0) hown hK hP a (wld_o ct ad37 (xt G s22.1) s22.2.2 hc hk (by decide)) rfl 8 (by decide) (hts (.fieldLink RX0 66 "VideoSuite$Coder" "planes" "[[I") (mu mw_822)) (fun _ h9 => h9) rfl dX0_start_137 ?_
        refine lv_iload_n hx hb dX0_start_140 rfl (lv_at hl 1 rfl) ?_
        refine W_st (st' := [.int s22.2.1, .ref (ad37 b50), .int s22.2.1, .ref (ad37 b50)]) (by rw [va_some ho50]) ?_
        obtain ⟨hvc, hF⟩ := chk_some hF
        refine ld_g hx hb hK hP hc50 hk50 hvc dX0_start_141 ?_
        refine W_st (st' := [.ref (ad37 b51), .int s22.2.1, .ref (ad37 b50)]) (by rw [va_some ho51]) ?_
        refine va_alen (v := Int32.ofNat ((xt G s22.1).2.2 b51)) hx hb hK hP b51 1 (wld_i ct ad37 (xt G s22.1) s22.2.2 hc51 hk51) rfl rfl dX0_start_142 ?_
        obtain ⟨x60, ex60, hF⟩ := ltt_some hF
        refine lv_topi (fun zx60 ezx60 => ?_)
        obtain rfl : x60 = zx60 := ex60.trans ezx60.symm
        obtain ⟨y61, hy61, hF⟩ := bnd_some hF
        have J61 : ∀ (H : Heap) (locs : List Loc) (ls : Array Slot), va_P D classes (wld ct ad37 (xt G s22.1) s22.2.2) H → va_D A (wld ct ad37 (xt G s22.1) s22.2.2) → va_S A s.heap H locs → lv_has ls 3 [(2, .int x49), (1, .int s22.2.1), (0, .ref (ad37 a))] → W p l e (headSpec wuX0_start ({ frames := 7, cells := y.1.length, slots := wt y.1, locals := 218 })).room s m ([.ref (ad a)] : List Value).toArray below meth c H locs (s22.1 : NN).length (wt s22.1) (MQ below (va_Qv (fun (u : Nat → Nat) => agr G.1 ad u) (fun u t => kE D ct u (xt G y.1) A y.2 t) A) ([.ref (ad a)] : List Value).toArray s y.1.length (wt y.1) A) (F0 m 153 ls [.int y61, .int s22.2.1, .ref (ad37 b50)]) := by
          intro H locs ls hP hD hS hl
          obtain ⟨hC62, hF⟩ := chkP_some hF
          obtain ⟨hz9, hF⟩ := chk_some hF
          obtain ⟨c63, ec63, hF⟩ := ltt_some hF
          obtain ⟨w64, hF, ew64⟩ := app_some hF
          obtain ⟨L65, eL65, hF⟩ := ltt_some hF
          have hT65 : L55 = (s22.1 ++ [(13, y61.toNatClampNeg)]) ++ w64.1 := by rw [hT, ew64]; simp only [List.append_assoc]
          obtain ⟨M66, eM66, hF⟩ := ltt_some hF
          refine new_i hx hb (hts (.arrayClass .int) (mu mw_266)) hK hP hD hS hA9 hz9.1 hz9.2 hC62 (room_1s hT65 hbl) dX0_start_153 (fun ad67 H hn68 hP hD hS => ?_)
          rw [← ec63, ← eL65, ← eM66] at hP hD
          refine W_cs (k := L65.length) (n := wt L65) (by rw [eL65]) (by rw [eL65]) ?_
          refine W_st (st' := [.ref (ad67 c63), .int s22.2.1, .ref (ad37 b50)]) (by rw [ec63]) ?_
          have hT : L55 = L65 ++ w64.1 := by rw [hT65, eL65]
          have h2 : y53.2 = w64.2 := by rw [h2, ew64]
          have hl := lv_sub (l' := [(1, .int s22.2.1), (0, .ref (ad37 a))]) hl [1, 2] rfl
          have e9 : ([(1, .int s22.2.1), (0, .ref (ad37 a))] : List (Nat × Value)) = [(1, .int s22.2.1), (0, .ref (ad67 a))] := (by first | rfl | simp only [hn68 a hc])
          rw [e9] at hl
          clear e9
          refine W_st (st' := [.ref (ad67 c63), .int s22.2.1, .ref (ad67 b50)]) (by first | rfl | simp only [hn68 b50 hc50]) ?_
          have hk : (xt G L65).2.1 a = 0 := by rw [eL65]; exact xt_k _ hc hk
          have hc : a < (xt G L65).1 := by rw [eL65]; exact xt_l _ hc
          have hk2 : (xt G L65).2.1 b2 = 13 := by rw [eL65]; exact xt_k _ hc2 hk2
          have hc2 : b2 < (xt G L65).1 := by rw [eL65]; exact xt_l _ hc2
          have hk3 : (xt G L65).2.1 b3 = 13 := by rw [eL65]; exact xt_k _ hc3 hk3
          have hc3 : b3 < (xt G L65).1 := by rw [eL65]; exact xt_l _ hc3
          have hk9 : (xt G L65).2.1 b9 = 13 := by rw [eL65]; exact xt_k _ hc9 hk9
          have hc9 : b9 < (xt G L65).1 := by rw [eL65]; exact xt_l _ hc9
          have hk14 : (xt G L65).2.1 b14 = 7 := by rw [eL65]; exact xt_k _ hc14 hk14
          have hc14 : b14 < (xt G L65).1 := by rw [eL65]; exact xt_l _ hc14
          have hk16 : (xt G L65).2.1 b16 = 10 := by rw [eL65]; exact xt_k _ hc16 hk16
          have hc16 : b16 < (xt G L65).1 := by rw [eL65]; exact xt_l _ hc16
          have hk18 : (xt G L65).2.1 b18 = 10 := by rw [eL65]; exact xt_k _ hc18 hk18
          have hc18 : b18 < (xt G L65).1 := by rw [eL65]; exact xt_l _ hc18
          have hk43 : (xt G L65).2.1 b43 = 13 := by rw [eL65]; exact xt_k _ hc43 hk43
          have hc43 : b43 < (xt G L65).1 := by rw [eL65]; exact xt_l _ hc43
          have hk50 : (xt G L65).2.1 b50 = 15 := by rw [eL65]; exact xt_k _ hc50 hk50
          have hc50 : b50 < (xt G L65).1 := by rw [eL65]; exact xt_l _ hc50
          have hk51 : (xt G L65).2.1 b51 = 13 := by rw [eL65]; exact xt_k _ hc51 hk51
          have hc51 : b51 < (xt G L65).1 := by rw [eL65]; exact xt_l _ hc51
          have hag := agr_t (xt_ge _ _) hag hn68
          have hc63 : c63 < (xt G L65).1 := by rw [ec63, eL65]; exact cnt_new _ _ _
          have hk63 : (xt G L65).2.1 c63 = 13 := by rw [ec63, eL65]; exact (kind_new _ _ _ _).1
          obtain ⟨hvc, hF⟩ := chk_some hF
          refine st_g hx hb hN hK hP hD hS hc50 hk50 hc63 hk63 hvc dX0_start_155 (fun H locs hP hD hS => ?_)
          obtain ⟨M69, eM69, hF⟩ := ltt_some hF
          rw [← eM69] at hP hD
          obtain rfl := Option.some.inj hF
          have e1 : L55 = L65 := by rw [hT]; exact List.append_nil _
          have e2 : y53.2 = M69 := h2
          rw [e1] at J53
          try rw [e2] at J53
          exact J53 _ hag _ _ _ hP hD hS (lv_sub hl [0, 1] rfl)
        clear hF
        have hF := hy61
        clear hy61
        refine lv_if_ne (tgt := 150) hx hb dX0_start_143 (by decide) (fun c70 => ?_) (fun c70 => ?_)
        · rw [if_neg c70] at hF
          refine lv_sipush (v := (8192 : Int32)) hx hb dX0_start_150 (by decide) ?_
          obtain rfl := Option.some.inj hF
          exact J61 _ _ _ hP hD hS (lv_sub hl [0, 1, 2] rfl)
        · rw [if_pos c70] at hF
          refine lv_iload_n hx hb dX0_start_146 rfl (lv_at hl 0 rfl) ?_
          refine lv_goto (tgt := 153) hx hb dX0_start_147 (by decide) ?_
          obtain rfl := Option.some.inj hF
          exact J61 _ _ _ hP hD hS (lv_sub hl [0, 1, 2] rfl)
    clear hF
    have hF := hy48
    clear hy48
    refine lv_if_ne (tgt := 116) hx hb dX0_start_107 (by decide) (fun c71 => ?_) (fun c71 => ?_)
    · rw [if_neg c71] at hF
      refine lv_bipush (v := (64 : Int32)) hx hb dX0_start_116 (by decide) ?_
      obtain rfl := Option.some.inj hF
      exact J48 _ _ _ hP hD hS (lv_sub hl [0, 1] rfl)
    · rw [if_pos c71] at hF
      refine lv_sipush (v := (256 : Int32)) hx hb dX0_start_110 (by decide) ?_
      refine lv_goto (tgt := 118) hx hb dX0_start_113 (by decide) ?_
      obtain rfl := Option.some.inj hF
      exact J48 _ _ _ hP hD hS (lv_sub hl [0, 1] rfl)
