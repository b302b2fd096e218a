set_option maxRecDepth 20000 in
theorem gX1_readLists_X5_fixed : GoodIn wuX1_readLists (wsV RX1 183 RX5 yX5_fixed wuX5_fixed) := gu_V mw_1355 mw_1356 mw_1357 mw_169 mw_1358
set_option maxRecDepth 20000 in
set_option maxRecDepth 20000 in
theorem gX1_readLists_X1_readMoves : GoodIn wuX1_readLists (wsV RX1 234 RX1 yX1_readMoves wuX1_readMoves) := gu_V mw_1372 mw_1374 mw_38 mw_168 mw_1375
set_option maxRecDepth 20000 in
set_option maxRecDepth 20000 in
theorem gX1_readLists_X1_unsigned : GoodIn wuX1_readLists (wsV RX1 186 RX1 yX1_unsigned wuX1_unsigned) := gu_V mw_1350 mw_1352 mw_34 mw_168 mw_1353
set_option maxRecDepth 20000 in
set_option maxRecDepth 20000 in
theorem gX1_readLists_X3_clearWeights : GoodIn wuX1_readLists (wsV RX1 237 RX3 yX3_clearWeights wuX3_clearWeights) := gu_V mw_1376 mw_1377 mw_1378 mw_174 mw_1379
set_option maxRecDepth 20000 in
set_option maxRecDepth 20000 in
theorem gX1_readLists_X1_readWeights : GoodIn wuX1_readLists (wsV RX1 240 RX1 yX1_readWeights wuX1_readWeights) := gu_V mw_1380 mw_1382 mw_39 mw_168 mw_1383
theorem dX1_readLists_0 : decode cX1_readLists 0 = .ok (.aload_n 0, 1) := by decide +kernel
theorem dX1_readLists_1 : decode cX1_readLists 1 = .ok (.getfield 68, 3) := by decide +kernel
theorem dX1_readLists_4 : decode cX1_readLists 4 = .ok (.getfield 212, 3) := by decide +kernel
theorem dX1_readLists_7 : decode cX1_readLists 7 = .ok (.astore_n 3, 1) := by decide +kernel
theorem dX1_readLists_8 : decode cX1_readLists 8 = .ok (.aload_n 3, 1) := by decide +kernel
theorem dX1_readLists_9 : decode cX1_readLists 9 = .ok (.iconst 1, 1) := by decide +kernel
theorem dX1_readLists_10 : decode cX1_readLists 10 = .ok (.iaload, 1) := by decide +kernel
theorem dX1_readLists_11 : decode cX1_readLists 11 = .ok (.iconst 1, 1) := by decide +kernel
theorem dX1_readLists_12 : decode cX1_readLists 12 = .ok (.if_icmp .ne 7, 3) := by decide +kernel
theorem dX1_readLists_15 : decode cX1_readLists 15 = .ok (.iconst 1, 1) := by decide +kernel
theorem dX1_readLists_16 : decode cX1_readLists 16 = .ok (.goto 4, 3) := by decide +kernel
theorem dX1_readLists_19 : decode cX1_readLists 19 = .ok (.iconst 0, 1) := by decide +kernel
theorem dX1_readLists_20 : decode cX1_readLists 20 = .ok (.istore 4, 2) := by decide +kernel
theorem dX1_readLists_22 : decode cX1_readLists 22 = .ok (.aload_n 3, 1) := by decide +kernel
theorem dX1_readLists_23 : decode cX1_readLists 23 = .ok (.bipush 8, 2) := by decide +kernel
theorem dX1_readLists_25 : decode cX1_readLists 25 = .ok (.iload 4, 2) := by decide +kernel
theorem dX1_readLists_27 : decode cX1_readLists 27 = .ok (.ifCond .eq 15, 3) := by decide +kernel
theorem dX1_readLists_30 : decode cX1_readLists 30 = .ok (.aload_n 0, 1) := by decide +kernel
theorem dX1_readLists_31 : decode cX1_readLists 31 = .ok (.getfield 12, 3) := by decide +kernel
theorem dX1_readLists_34 : decode cX1_readLists 34 = .ok (.iconst 0, 1) := by decide +kernel
theorem dX1_readLists_35 : decode cX1_readLists 35 = .ok (.iconst 1, 1) := by decide +kernel
theorem dX1_readLists_36 : decode cX1_readLists 36 = .ok (.invokevirtual 183, 3) := by decide +kernel
theorem dX1_readLists_39 : decode cX1_readLists 39 = .ok (.goto 4, 3) := by decide +kernel
theorem dX1_readLists_42 : decode cX1_readLists 42 = .ok (.iconst 0, 1) := by decide +kernel
theorem dX1_readLists_43 : decode cX1_readLists 43 = .ok (.iastore, 1) := by decide +kernel
theorem dX1_readLists_44 : decode cX1_readLists 44 = .ok (.aload_n 3, 1) := by decide +kernel
theorem dX1_readLists_45 : decode cX1_readLists 45 = .ok (.bipush 9, 2) := by decide +kernel
theorem dX1_readLists_47 : decode cX1_readLists 47 = .ok (.aload_n 2, 1) := by decide +kernel
theorem dX1_readLists_48 : decode cX1_readLists 48 = .ok (.iconst 3, 1) := by decide +kernel
theorem dX1_readLists_49 : decode cX1_readLists 49 = .ok (.iaload, 1) := by decide +kernel
theorem dX1_readLists_50 : decode cX1_readLists 50 = .ok (.iastore, 1) := by decide +kernel
theorem dX1_readLists_51 : decode cX1_readLists 51 = .ok (.aload_n 3, 1) := by decide +kernel
theorem dX1_readLists_52 : decode cX1_readLists 52 = .ok (.bipush 10, 2) := by decide +kernel
theorem dX1_readLists_54 : decode cX1_readLists 54 = .ok (.iload 4, 2) := by decide +kernel
theorem dX1_readLists_56 : decode cX1_readLists 56 = .ok (.ifCond .eq 9, 3) := by decide +kernel
theorem dX1_readLists_59 : decode cX1_readLists 59 = .ok (.aload_n 2, 1) := by decide +kernel
theorem dX1_readLists_60 : decode cX1_readLists 60 = .ok (.iconst 4, 1) := by decide +kernel
theorem dX1_readLists_61 : decode cX1_readLists 61 = .ok (.iaload, 1) := by decide +kernel
theorem dX1_readLists_62 : decode cX1_readLists 62 = .ok (.goto 4, 3) := by decide +kernel
theorem dX1_readLists_65 : decode cX1_readLists 65 = .ok (.iconst 0, 1) := by decide +kernel
theorem dX1_readLists_66 : decode cX1_readLists 66 = .ok (.iastore, 1) := by decide +kernel
theorem dX1_readLists_67 : decode cX1_readLists 67 = .ok (.aload_n 0, 1) := by decide +kernel
theorem dX1_readLists_68 : decode cX1_readLists 68 = .ok (.getfield 12, 3) := by decide +kernel
theorem dX1_readLists_71 : decode cX1_readLists 71 = .ok (.iconst 0, 1) := by decide +kernel
theorem dX1_readLists_72 : decode cX1_readLists 72 = .ok (.iconst 1, 1) := by decide +kernel
theorem dX1_readLists_73 : decode cX1_readLists 73 = .ok (.invokevirtual 183, 3) := by decide +kernel
theorem dX1_readLists_76 : decode cX1_readLists 76 = .ok (.iconst 1, 1) := by decide +kernel
theorem dX1_readLists_77 : decode cX1_readLists 77 = .ok (.if_icmp .ne 36, 3) := by decide +kernel
theorem dX1_readLists_80 : decode cX1_readLists 80 = .ok (.aload_n 3, 1) := by decide +kernel
theorem dX1_readLists_81 : decode cX1_readLists 81 = .ok (.bipush 9, 2) := by decide +kernel
theorem dX1_readLists_83 : decode cX1_readLists 83 = .ok (.aload_n 0, 1) := by decide +kernel
theorem dX1_readLists_84 : decode cX1_readLists 84 = .ok (.bipush 7, 2) := by decide +kernel
theorem dX1_readLists_86 : decode cX1_readLists 86 = .ok (.invokevirtual 186, 3) := by decide +kernel
theorem dX1_readLists_89 : decode cX1_readLists 89 = .ok (.iconst 1, 1) := by decide +kernel
theorem dX1_readLists_90 : decode cX1_readLists 90 = .ok (.iadd, 1) := by decide +kernel
theorem dX1_readLists_91 : decode cX1_readLists 91 = .ok (.iastore, 1) := by decide +kernel
theorem dX1_readLists_92 : decode cX1_readLists 92 = .ok (.aload_n 3, 1) := by decide +kernel
theorem dX1_readLists_93 : decode cX1_readLists 93 = .ok (.bipush 10, 2) := by decide +kernel
theorem dX1_readLists_95 : decode cX1_readLists 95 = .ok (.iload 4, 2) := by decide +kernel
theorem dX1_readLists_97 : decode cX1_readLists 97 = .ok (.ifCond .eq 14, 3) := by decide +kernel
theorem dX1_readLists_100 : decode cX1_readLists 100 = .ok (.aload_n 0, 1) := by decide +kernel
theorem dX1_readLists_101 : decode cX1_readLists 101 = .ok (.bipush 7, 2) := by decide +kernel
theorem dX1_readLists_103 : decode cX1_readLists 103 = .ok (.invokevirtual 186, 3) := by decide +kernel
theorem dX1_readLists_106 : decode cX1_readLists 106 = .ok (.iconst 1, 1) := by decide +kernel
theorem dX1_readLists_107 : decode cX1_readLists 107 = .ok (.iadd, 1) := by decide +kernel
theorem dX1_readLists_108 : decode cX1_readLists 108 = .ok (.goto 4, 3) := by decide +kernel
theorem dX1_readLists_111 : decode cX1_readLists 111 = .ok (.iconst 0, 1) := by decide +kernel
theorem dX1_readLists_112 : decode cX1_readLists 112 = .ok (.iastore, 1) := by decide +kernel
theorem dX1_readLists_113 : decode cX1_readLists 113 = .ok (.aload_n 0, 1) := by decide +kernel
theorem dX1_readLists_114 : decode cX1_readLists 114 = .ok (.iconst 0, 1) := by decide +kernel
theorem dX1_readLists_115 : decode cX1_readLists 115 = .ok (.iconst 1, 1) := by decide +kernel
theorem dX1_readLists_116 : decode cX1_readLists 116 = .ok (.aload_n 1, 1) := by decide +kernel
theorem dX1_readLists_117 : decode cX1_readLists 117 = .ok (.iconst 2, 1) := by decide +kernel
theorem dX1_readLists_118 : decode cX1_readLists 118 = .ok (.iaload, 1) := by decide +kernel
theorem dX1_readLists_119 : decode cX1_readLists 119 = .ok (.ishl, 1) := by decide +kernel
theorem dX1_readLists_120 : decode cX1_readLists 120 = .ok (.invokevirtual 234, 3) := by decide +kernel
theorem dX1_readLists_123 : decode cX1_readLists 123 = .ok (.iload 4, 2) := by decide +kernel
theorem dX1_readLists_125 : decode cX1_readLists 125 = .ok (.ifCond .eq 13, 3) := by decide +kernel
theorem dX1_readLists_128 : decode cX1_readLists 128 = .ok (.aload_n 0, 1) := by decide +kernel
theorem dX1_readLists_129 : decode cX1_readLists 129 = .ok (.iconst 1, 1) := by decide +kernel
theorem dX1_readLists_130 : decode cX1_readLists 130 = .ok (.iconst 1, 1) := by decide +kernel
theorem dX1_readLists_131 : decode cX1_readLists 131 = .ok (.aload_n 1, 1) := by decide +kernel
theorem dX1_readLists_132 : decode cX1_readLists 132 = .ok (.iconst 2, 1) := by decide +kernel
theorem dX1_readLists_133 : decode cX1_readLists 133 = .ok (.iaload, 1) := by decide +kernel
theorem dX1_readLists_134 : decode cX1_readLists 134 = .ok (.ishl, 1) := by decide +kernel
theorem dX1_readLists_135 : decode cX1_readLists 135 = .ok (.invokevirtual 234, 3) := by decide +kernel
theorem dX1_readLists_138 : decode cX1_readLists 138 = .ok (.iload 4, 2) := by decide +kernel
theorem dX1_readLists_140 : decode cX1_readLists 140 = .ok (.ifCond .eq 14, 3) := by decide +kernel
theorem dX1_readLists_143 : decode cX1_readLists 143 = .ok (.aload_n 2, 1) := by decide +kernel
theorem dX1_readLists_144 : decode cX1_readLists 144 = .ok (.bipush 6, 2) := by decide +kernel
theorem dX1_readLists_146 : decode cX1_readLists 146 = .ok (.iaload, 1) := by decide +kernel
theorem dX1_readLists_147 : decode cX1_readLists 147 = .ok (.iconst 1, 1) := by decide +kernel
theorem dX1_readLists_148 : decode cX1_readLists 148 = .ok (.if_icmp .ne 55, 3) := by decide +kernel
theorem dX1_readLists_151 : decode cX1_readLists 151 = .ok (.goto 10, 3) := by decide +kernel
theorem dX1_readLists_154 : decode cX1_readLists 154 = .ok (.aload_n 2, 1) := by decide +kernel
theorem dX1_readLists_155 : decode cX1_readLists 155 = .ok (.iconst 5, 1) := by decide +kernel
theorem dX1_readLists_156 : decode cX1_readLists 156 = .ok (.iaload, 1) := by decide +kernel
theorem dX1_readLists_157 : decode cX1_readLists 157 = .ok (.iconst 1, 1) := by decide +kernel
theorem dX1_readLists_158 : decode cX1_readLists 158 = .ok (.if_icmp .ne 45, 3) := by decide +kernel
theorem dX1_readLists_161 : decode cX1_readLists 161 = .ok (.aload_n 3, 1) := by decide +kernel
theorem dX1_readLists_162 : decode cX1_readLists 162 = .ok (.bipush 22, 2) := by decide +kernel
theorem dX1_readLists_164 : decode cX1_readLists 164 = .ok (.aload_n 0, 1) := by decide +kernel
theorem dX1_readLists_165 : decode cX1_readLists 165 = .ok (.bipush 7, 2) := by decide +kernel
theorem dX1_readLists_167 : decode cX1_readLists 167 = .ok (.invokevirtual 186, 3) := by decide +kernel
theorem dX1_readLists_170 : decode cX1_readLists 170 = .ok (.iastore, 1) := by decide +kernel
theorem dX1_readLists_171 : decode cX1_readLists 171 = .ok (.aload_n 3, 1) := by decide +kernel
theorem dX1_readLists_172 : decode cX1_readLists 172 = .ok (.bipush 23, 2) := by decide +kernel
theorem dX1_readLists_174 : decode cX1_readLists 174 = .ok (.aload_n 0, 1) := by decide +kernel
theorem dX1_readLists_175 : decode cX1_readLists 175 = .ok (.bipush 7, 2) := by decide +kernel
theorem dX1_readLists_177 : decode cX1_readLists 177 = .ok (.invokevirtual 186, 3) := by decide +kernel
theorem dX1_readLists_180 : decode cX1_readLists 180 = .ok (.iastore, 1) := by decide +kernel
theorem dX1_readLists_181 : decode cX1_readLists 181 = .ok (.aload_n 0, 1) := by decide +kernel
theorem dX1_readLists_182 : decode cX1_readLists 182 = .ok (.getfield 68, 3) := by decide +kernel
theorem dX1_readLists_185 : decode cX1_readLists 185 = .ok (.invokevirtual 237, 3) := by decide +kernel
theorem dX1_readLists_188 : decode cX1_readLists 188 = .ok (.aload_n 0, 1) := by decide +kernel
theorem dX1_readLists_189 : decode cX1_readLists 189 = .ok (.iconst 0, 1) := by decide +kernel
theorem dX1_readLists_190 : decode cX1_readLists 190 = .ok (.invokevirtual 240, 3) := by decide +kernel
theorem dX1_readLists_193 : decode cX1_readLists 193 = .ok (.iload 4, 2) := by decide +kernel
theorem dX1_readLists_195 : decode cX1_readLists 195 = .ok (.ifCond .eq 8, 3) := by decide +kernel
theorem dX1_readLists_198 : decode cX1_readLists 198 = .ok (.aload_n 0, 1) := by decide +kernel
theorem dX1_readLists_199 : decode cX1_readLists 199 = .ok (.iconst 1, 1) := by decide +kernel
theorem dX1_readLists_200 : decode cX1_readLists 200 = .ok (.invokevirtual 240, 3) := by decide +kernel
theorem dX1_readLists_203 : decode cX1_readLists 203 = .ok (.return_, 1) := by decide +kernel
def FX1_readLists (G : GG) (M : DD) (a : Nat) (p0 : Option Nat) (p1 : Option Nat) : Option (DD) :=
  dr G 3 ((M.2 a 10)) fun b2 =>
  dr G 13 ((M.2 b2 0)) fun b3 =>
  chk (¬ (((1 : Int32)) < 0 ∨ G.2.2 b3 ≤ ((1 : Int32)).toNatClampNeg)) <|
  ltt (M.1 b3 ((1 : Int32)).toNatClampNeg) fun x4 =>
  bnd (if x4 = ((1 : Int32)) then (some ((1 : Int32))) else
  (some ((0 : Int32)))) fun (y5 : Int32) =>
  bnd (if y5 = ((0 : Int32)) then (some ((0 : Int32), M)) else
  (dr G 5 ((M.2 a 0)) fun b65 =>
  bnd (FX5_fixed G M b65 ((0 : Int32)) ((1 : Int32))) fun y66 =>
  some (y66.2, y66.1))) fun (y6 : Int32 × DD) =>
  chk (¬ (((8 : Int32)) < 0 ∨ G.2.2 b3 ≤ ((8 : Int32)).toNatClampNeg)) <|
  ltt (uI y6.2 b3 ((8 : Int32)).toNatClampNeg y6.1) fun M7 =>
  dr G 13 p1 fun b8 =>
  chk (¬ (((3 : Int32)) < 0 ∨ G.2.2 b8 ≤ ((3 : Int32)).toNatClampNeg)) <|
  ltt (M7.1 b8 ((3 : Int32)).toNatClampNeg) fun x9 =>
  chk (¬ (((9 : Int32)) < 0 ∨ G.2.2 b3 ≤ ((9 : Int32)).toNatClampNeg)) <|
  ltt (uI M7 b3 ((9 : Int32)).toNatClampNeg x9) fun M10 =>
  bnd (if y5 = ((0 : Int32)) then (some ((0 : Int32))) else
  (chk (¬ (((4 : Int32)) < 0 ∨ G.2.2 b8 ≤ ((4 : Int32)).toNatClampNeg)) <|
  ltt (M10.1 b8 ((4 : Int32)).toNatClampNeg) fun x63 =>
  some (x63))) fun (y11 : Int32) =>
  chk (¬ (((10 : Int32)) < 0 ∨ G.2.2 b3 ≤ ((10 : Int32)).toNatClampNeg)) <|
  ltt (uI M10 b3 ((10 : Int32)).toNatClampNeg y11) fun M12 =>
  dr G 5 ((M12.2 a 0)) fun b13 =>
  bnd (FX5_fixed G M12 b13 ((0 : Int32)) ((1 : Int32))) fun y14 =>
  bnd (if y14.2 = ((1 : Int32)) then (bnd (FX1_unsigned G y14.1 a ((7 : Int32))) fun y54 =>
  ltt ((y54.2 + ((1 : Int32)))) fun x55 =>
  chk (¬ (((9 : Int32)) < 0 ∨ G.2.2 b3 ≤ ((9 : Int32)).toNatClampNeg)) <|
  ltt (uI y54.1 b3 ((9 : Int32)).toNatClampNeg x55) fun M56 =>
  bnd (if y5 = ((0 : Int32)) then (some ((0 : Int32), M56)) else
  (bnd (FX1_unsigned G M56 a ((7 : Int32))) fun y60 =>
  ltt ((y60.2 + ((1 : Int32)))) fun x61 =>
  some (x61, y60.1))) fun (y57 : Int32 × DD) =>
  chk (¬ (((10 : Int32)) < 0 ∨ G.2.2 b3 ≤ ((10 : Int32)).toNatClampNeg)) <|
  ltt (uI y57.2 b3 ((10 : Int32)).toNatClampNeg y57.1) fun M58 =>
  some (M58)) else
  (some (y14.1))) fun (y15 : DD) =>
  dr G 13 p0 fun b16 =>
  chk (¬ (((2 : Int32)) < 0 ∨ G.2.2 b16 ≤ ((2 : Int32)).toNatClampNeg)) <|
  ltt (y15.1 b16 ((2 : Int32)).toNatClampNeg) fun x17 =>
  ltt ((((1 : Int32)) <<< (x17 &&& 31))) fun x18 =>
  bnd (FX1_readMoves G y15 a ((0 : Int32)) x18) fun y19 =>
  bnd (if y5 = ((0 : Int32)) then (some (y19)) else
  (chk (¬ (((2 : Int32)) < 0 ∨ G.2.2 b16 ≤ ((2 : Int32)).toNatClampNeg)) <|
  ltt (y19.1 b16 ((2 : Int32)).toNatClampNeg) fun x50 =>
  ltt ((((1 : Int32)) <<< (x50 &&& 31))) fun x51 =>
  bnd (FX1_readMoves G y19 a ((1 : Int32)) x51) fun y52 =>
  some (y52))) fun (y20 : DD) =>
  bnd (if y5 = ((0 : Int32)) then (chk (¬ (((5 : Int32)) < 0 ∨ G.2.2 b8 ≤ ((5 : Int32)).toNatClampNeg)) <|
  ltt (y20.1 b8 ((5 : Int32)).toNatClampNeg) fun x23 =>
  bnd (if x23 = ((1 : Int32)) then (bnd (FX1_unsigned G y20 a ((7 : Int32))) fun y26 =>
  chk (¬ (((22 : Int32)) < 0 ∨ G.2.2 b3 ≤ ((22 : Int32)).toNatClampNeg)) <|
  ltt (uI y26.1 b3 ((22 : Int32)).toNatClampNeg y26.2) fun M27 =>
  bnd (FX1_unsigned G M27 a ((7 : Int32))) fun y28 =>
  chk (¬ (((23 : Int32)) < 0 ∨ G.2.2 b3 ≤ ((23 : Int32)).toNatClampNeg)) <|
  ltt (uI y28.1 b3 ((23 : Int32)).toNatClampNeg y28.2) fun M29 =>
  dr G 3 ((M29.2 a 10)) fun b30 =>
  bnd (FX3_clearWeights G M29 b30) fun y31 =>
  bnd (FX1_readWeights G y31 a ((0 : Int32))) fun y32 =>
  bnd (if y5 = ((0 : Int32)) then (some (y32)) else
  (bnd (FX1_readWeights G y32 a ((1 : Int32))) fun y35 =>
  some (y35))) fun (y33 : DD) =>
  some (y33)) else
  (some (y20))) fun (y24 : DD) =>
  some (y24)) else
  (chk (¬ (((6 : Int32)) < 0 ∨ G.2.2 b8 ≤ ((6 : Int32)).toNatClampNeg)) <|
  ltt (y20.1 b8 ((6 : Int32)).toNatClampNeg) fun x36 =>
  bnd (if x36 = ((1 : Int32)) then (bnd (FX1_unsigned G y20 a ((7 : Int32))) fun y39 =>
  chk (¬ (((22 : Int32)) < 0 ∨ G.2.2 b3 ≤ ((22 : Int32)).toNatClampNeg)) <|
  ltt (uI y39.1 b3 ((22 : Int32)).toNatClampNeg y39.2) fun M40 =>
  bnd (FX1_unsigned G M40 a ((7 : Int32))) fun y41 =>
  chk (¬ (((23 : Int32)) < 0 ∨ G.2.2 b3 ≤ ((23 : Int32)).toNatClampNeg)) <|
  ltt (uI y41.1 b3 ((23 : Int32)).toNatClampNeg y41.2) fun M42 =>
  dr G 3 ((M42.2 a 10)) fun b43 =>
  bnd (FX3_clearWeights G M42 b43) fun y44 =>
  bnd (FX1_readWeights G y44 a ((0 : Int32))) fun y45 =>
  bnd (if y5 = ((0 : Int32)) then (some (y45)) else
  (bnd (FX1_readWeights G y45 a ((1 : Int32))) fun y48 =>
  some (y48))) fun (y46 : DD) =>
  some (y46)) else
  (some (y20))) fun (y37 : DD) =>
  some (y37))) fun (y21 : DD) =>
  some y21
set_option maxHeartbeats 4000000 in
set_option maxRecDepth 100000 in
theorem kX1_readLists (l : Launch) (D : va_G) (ct : CT) (ad : Nat → Nat) (Z : Nat → Nat) (G : GG) (M : DD) (sz : Nat) (a : Nat) (p0 : Option Nat) (p1 : Option Nat) (y : DD) (hc : a < G.1) (hk : G.2.1 a = 1) (hF : FX1_readLists G M a p0 p1 = some y) : Met l yX1_readLists wuX1_readLists ({ frames := 4, cells := 0, slots := 0, locals := 107 }) (va_Pc [.ref (ad a), va_re ad p0, va_re ad p1] (kB D ct ad Z G M sz)) (va_Qv (fun (_ : Unit) => True) (fun _ t => kE D ct ad G (wA ad G sz) y t) (wA ad G sz)) 0 0 (wA ad G sz) := by
  refine Met.ofW (cc := cX1_readLists) (maxL := 5) (ret := none) (by decide) rfl ?_
  intro p e s m args below meth c s₁ B hml hv
  obtain ⟨rfl, hsz, hP, hK, hD0, hZ, hN⟩ := hv
  have hx := B.exec
  have hb := B.bytes
  have hr := B.returns
  have hts := atoms_spec (ws := wuX1_readLists) B.pre
  have hown : s.vm.findClass RX1 = some m.cls := findClass_of_methodNamed B.named
  have hlocks := B.notSynchronized
  subst hsz
  have hD := wD_self (sz := s.heap.size) hD0
  have hA9 : ∀ q, s.heap.size ≤ q → wA ad G s.heap.size q := fun q h => Or.inr h
  generalize hAe : wA ad G s.heap.size = A at hD hA9 hZ ⊢
  have hS : va_S A s.heap s.heap [] := va_S.rf
  have hl := lv_entry ([.ref (ad a), va_re ad p0, va_re ad p1]) (n := 5) (by cases p0 <;> cases p1 <;> exact Nat.le_of_ble_eq_true rfl)
  rw [lg_entry_eq]
  generalize (lg_sl ([.ref (ad a), va_re ad p0, va_re ad p1]) ++ List.replicate (5 - (lg_sl ([.ref (ad a), va_re ad p0, va_re ad p1])).length) Slot.unset).toArray = ls at hl ⊢
  have hl : lv_has ls 5 [(0, .ref (ad a)), (1, va_re ad p0), (2, va_re ad p1)] := by have e9 : lv_args 0 [.ref (ad a), va_re ad p0, va_re ad p1] = [(0, .ref (ad a)), (1, va_re ad p0), (2, va_re ad p1)] := (by cases p0 <;> cases p1 <;> rfl); rw [e9] at hl; exact hl
  unfold FX1_readLists at hF
  refine lv_aload_n hx hb dX1_readLists_0 rfl (lv_at hl 0 rfl) ?_
  refine va_get (D := D) (ci := 1) (v := va_re ad (M.2 a 10)) (C := RX1) (T := TX1) (N := 22) hx hb hts (mus hf_X1) hown hK hP a (wld_o ct ad G M hc hk (by decide)) rfl 10 (by decide) (hts (.fieldLink RX1 68 "VideoSuite$Decoder" "head" "LVideoSuite$Header;") (mu mw_652)) (fun _ h9 => h9) rfl dX1_readLists_1 ?_
  obtain ⟨b2, ho2, hc2, hk2, hF⟩ := dr_some hF
  refine W_st (st' := [.ref (ad b2)]) (by rw [va_some ho2]) ?_
  refine va_get (D := D) (ci := 3) (v := va_re ad (M.2 b2 0)) (C := RX3) (T := TX3) (N := 4) hx hb hts (mus hf_X3) hown hK hP b2 (wld_o ct ad G M hc2 hk2 (by decide)) rfl 0 (by decide) (hts (.fieldLink RX1 212 "VideoSuite$Header" "v" "[I") (mu mw_618)) (fun _ h9 => h9) rfl dX1_readLists_4 ?_
  refine lv_astoreq_n (lv' := [(3, va_re ad (M.2 b2 0)), (0, .ref (ad a)), (1, va_re ad p0), (2, va_re ad p1)]) hx hb dX1_readLists_7 rfl hl (by decide) (by generalize p1 = o9; cases o9 <;> rfl) (fun ls hl => ?_)
  refine lv_aloadq_n hx hb dX1_readLists_8 rfl (lv_at hl 0 rfl) ?_
  refine lv_iconst (v := (1 : Int32)) hx hb dX1_readLists_9 (by decide) ?_
  obtain ⟨b3, ho3, hc3, hk3, hF⟩ := dr_some hF
  refine W_st (st' := [.int (1 : Int32), .ref (ad b3)]) (by rw [va_some ho3]) ?_
  obtain ⟨hvc, hF⟩ := chk_some hF
  refine va_iald hx hb hK hP b3 1 (wld_i ct ad G M hc3 hk3) rfl hvc dX1_readLists_10 ?_
  obtain ⟨x4, ex4, hF⟩ := ltt_some hF
  refine lv_topi (fun zx4 ezx4 => ?_)
  obtain rfl : x4 = zx4 := ex4.trans ezx4.symm
  refine lv_iconst (v := (1 : Int32)) hx hb dX1_readLists_11 (by decide) ?_
  obtain ⟨y5, hy5, hF⟩ := bnd_some hF
  have J5 : ∀ (H : Heap) (locs : List Loc) (ls : Array Slot), va_P D classes (wld ct ad G M) H → va_D A (wld ct ad G M) → va_S A s.heap H locs → lv_has ls 5 [(3, va_re ad (M.2 b2 0)), (0, .ref (ad a)), (1, va_re ad p0), (2, va_re ad p1)] → W p l e (headSpec wuX1_readLists ({ frames := 4, cells := 0, slots := 0, locals := 107 })).room s m ([.ref (ad a), va_re ad p0, va_re ad p1] : List Value).toArray below meth c H locs 0 0 (MQ below (va_Qv (fun (_ : Unit) => True) (fun _ t => kE D ct ad G A y t) A) ([.ref (ad a), va_re ad p0, va_re ad p1] : List Value).toArray s 0 0 A) (F0 m 20 ls [.int y5]) := by
    intro H locs ls hP hD hS hl
    refine lv_istore (lv' := [(4, .int y5), (3, va_re ad (M.2 b2 0)), (0, .ref (ad a)), (1, va_re ad p0), (2, va_re ad p1)]) hx hb dX1_readLists_20 hl (by decide) (by generalize ((M.2 b2 0)) = o9; cases o9 <;> rfl) (fun ls hl => ?_)
    refine lv_aloadq_n hx hb dX1_readLists_22 rfl (lv_at hl 1 rfl) ?_
    refine lv_bipush (v := (8 : Int32)) hx hb dX1_readLists_23 (by decide) ?_
    refine lv_iload hx hb dX1_readLists_25 (lv_at hl 0 rfl) ?_
    obtain ⟨y6, hy6, hF⟩ := bnd_some hF
    have J6 : ∀ (H : Heap) (locs : List Loc) (ls : Array Slot), va_P D classes (wld ct ad G y6.2) H → va_D A (wld ct ad G y6.2) → va_S A s.heap H locs → lv_has ls 5 [(4, .int y5), (3, va_re ad (M.2 b2 0)), (0, .ref (ad a)), (1, va_re ad p0), (2, va_re ad p1)] → W p l e (headSpec wuX1_readLists ({ frames := 4, cells := 0, slots := 0, locals := 107 })).room s m ([.ref (ad a), va_re ad p0, va_re ad p1] : List Value).toArray below meth c H locs 0 0 (MQ below (va_Qv (fun (_ : Unit) => True) (fun _ t => kE D ct ad G A y t) A) ([.ref (ad a), va_re ad p0, va_re ad p1] : List Value).toArray s 0 0 A) (F0 m 43 ls [.int y6.1, .int (8 : Int32), va_re ad (M.2 b2 0)]) := by
      intro H locs ls hP hD hS hl
      refine W_st (st' := [.int y6.1, .int (8 : Int32), .ref (ad b3)]) (by rw [va_some ho3]) ?_
      obtain ⟨hvc, hF⟩ := chk_some hF
      refine va_iast hx hb hK hP hD hS b3 1 (wld_i ct ad G y6.2 hc3 hk3) rfl hvc dX1_readLists_43 (fun H locs hP hD hS => ?_)
      obtain ⟨M7, eM7, hF⟩ := ltt_some hF
      rw [set_i ct ad G y6.2 hc3 hk3, ← eM7] at hP hD
      refine lv_aloadq_n hx hb dX1_readLists_44 rfl (lv_at hl 1 rfl) ?_
      refine lv_bipush (v := (9 : Int32)) hx hb dX1_readLists_45 (by decide) ?_
      refine lv_aloadq_n hx hb dX1_readLists_47 rfl (lv_at hl 4 rfl) ?_
      refine lv_iconst (v := (3 : Int32)) hx hb dX1_readLists_48 (by decide) ?_
      obtain ⟨b8, ho8, hc8, hk8, hF⟩ := dr_some hF
      refine W_st (st' := [.int (3 : Int32), .ref (ad b8), .int (9 : Int32), va_re ad (M.2 b2 0)]) (by rw [va_some ho8]) ?_
      obtain ⟨hvc, hF⟩ := chk_some hF
      refine va_iald hx hb hK hP b8 1 (wld_i ct ad G M7 hc8 hk8) rfl hvc dX1_readLists_49 ?_
      obtain ⟨x9, ex9, hF⟩ := ltt_some hF
      refine lv_topi (fun zx9 ezx9 => ?_)
      obtain rfl : x9 = zx9 := ex9.trans ezx9.symm
      refine W_st (st' := [.int x9, .int (9 : Int32), .ref (ad b3)]) (by rw [va_some ho3]) ?_
      obtain ⟨hvc, hF⟩ := chk_some hF
      refine va_iast hx hb hK hP hD hS b3 1 (wld_i ct ad G M7 hc3 hk3) rfl hvc dX1_readLists_50 (fun H locs hP hD hS => ?_)
      obtain ⟨M10, eM10, hF⟩ := ltt_some hF
      rw [set_i ct ad G M7 hc3 hk3, ← eM10] at hP hD
      refine lv_aloadq_n hx hb dX1_readLists_51 rfl (lv_at hl 1 rfl) ?_
      refine lv_bipush (v := (10 : Int32)) hx hb dX1_readLists_52 (by decide) ?_
      refine lv_iload hx hb dX1_readLists_54 (lv_at hl 0 rfl) ?_
      obtain ⟨y11, hy11, hF⟩ := bnd_some hF
      have J11 : ∀ (H : Heap) (locs : List Loc) (ls : Array Slot), va_P D classes (wld ct ad G M10) H → va_D A (wld ct ad G M10) → va_S A s.heap H locs → lv_has ls 5 [(4, .int y5), (3, va_re ad (M.2 b2 0)), (0, .ref (ad a)), (1, va_re ad p0), (2, va_re ad p1)] → W p l e (headSpec wuX1_readLists ({ frames := 4, cells := 0, slots := 0, locals := 107 })).room s m ([.ref (ad a), va_re ad p0, va_re ad p1] : List Value).toArray below meth c H locs 0 0 (MQ below (va_Qv (fun (_ : Unit) => True) (fun _ t => kE D ct ad G A y t) A) ([.ref (ad a), va_re ad p0, va_re ad p1] : List Value).toArray s 0 0 A) (F0 m 66 ls [.int y11, .int (10 : Int32), va_re ad (M.2 b2 0)]) := by
        intro H locs ls hP hD hS hl
        refine W_st (st' := [.int y11, .int (10 : Int32), .ref (ad b3)]) (by rw [va_some ho3]) ?_
        obtain ⟨hvc, hF⟩ := chk_some hF
        refine va_iast hx hb hK hP hD hS b3 1 (wld_i ct ad G M10 hc3 hk3) rfl hvc dX1_readLists_66 (fun H locs hP hD hS => ?_)
        obtain ⟨M12, eM12, hF⟩ := ltt_some hF
        rw [set_i ct ad G M10 hc3 hk3, ← eM12] at hP hD
        refine lv_aload_n hx hb dX1_readLists_67 rfl (lv_at hl 2 rfl) ?_
        refine va_get (D := D) (ci := 1) (v := va_re ad (M12.2 a 0)) (C := RX1) (T := TX1) (N := 22) hx hb hts (mus hf_X1) hown hK hP a (wld_o ct ad G M12 hc hk (by decide)) rfl 0 (by decide) (hts (.fieldLink RX1 12 "VideoSuite$Decoder" "reader" "LVideoSuite$Reader;") (mu mw_640)) (fun _ h9 => h9) rfl dX1_readLists_68 ?_
        refine lv_iconst (v := (0 : Int32)) hx hb dX1_readLists_71 (by decide) ?_
        refine lv_iconst (v := (1 : Int32)) hx hb dX1_readLists_72 (by decide) ?_
        obtain ⟨b13, ho13, hc13, hk13, hF⟩ := dr_some hF
        refine W_st (st' := [.int (1 : Int32), .int (0 : Int32), .ref (ad b13)]) (by rw [va_some ho13]) ?_
        obtain ⟨y14, hy14, hF⟩ := bnd_some hF
        have hf9 := wA_in hD hA9 hS
        refine va_calli (va_runV (As := [.int (0 : Int32), .int (1 : Int32)]) (rest := []) ⟨hx, hb, hml, hown, hts⟩ (kX5_fixed l D ct ad Z G M12 H.size b13 ((0 : Int32)) ((1 : Int32)) y14 hc13 hk13 hy14) (cwV 2 hts gX1_readLists_X5_fixed rfl rfl rfl (by decide +kernel) ⟨Nat.le_of_ble_eq_true rfl, Nat.le_of_ble_eq_true rfl⟩) ⟨fun a U g mk q => by obtain ⟨q0, q1, qP, qK, qD, qZ, qN⟩ := q; exact ⟨q0, q1, qP, va_K.moved (u := U) (U := U.calling g mk a) (Vm.Alike.refl U.vm) qK, qD, sF.moved (u := U) (U := U.calling g mk a) (Vm.Alike.refl U.vm) qZ, nF.same rfl qN⟩, va_recv hK hP (ci := 5) (q0 := b13) rfl (wld_o ct ad G M12 hc13 hk13 (by decide)), fun U hU hW => ⟨rfl, by rw [hU], by rw [hU]; exact hP, va_K.moved hW.alike hK, hD.weaken (fun _ _ _ _ => trivial), by rw [hU]; exact ((hZ.kept hS.2.1).narrow hf9).moved hW.alike, hN.warm hW⟩⟩ rfl rfl hl.1 rfl (lv_room (Nat.le_of_ble_eq_true rfl)) dX1_readLists_73 ⟨(Nat.zero_le _), (Nat.zero_le _)⟩) hS (fun q _ h => hf9 q h) hf9 (fun r u t H locs ht hvm hw hB hz1 hk1 hS => ?_)
        obtain ⟨hP, hK9, hD9⟩ := hB
        rw [ht] at hP
        try dsimp only at hw
        subst hw
        have hD := hD9.weaken (fun _ q _ h => hf9 q.1 h)
        refine lv_iconst (v := (1 : Int32)) hx hb dX1_readLists_76 (by decide) ?_
        obtain ⟨y15, hy15, hF⟩ := bnd_some hF
        have J15 : ∀ (H : Heap) (locs : List Loc) (ls : Array Slot), va_P D classes (wld ct ad G y15) H → va_D A (wld ct ad G y15) → va_S A s.heap H locs → lv_has ls 5 [(4, .int y5), (3, va_re ad (M.2 b2 0)), (0, .ref (ad a)), (1, va_re ad p0), (2, va_re ad p1)] → W p l e (headSpec wuX1_readLists ({ frames := 4, cells := 0, slots := 0, locals := 107 })).room s m ([.ref (ad a), va_re ad p0, va_re ad p1] : List Value).toArray below meth c H locs 0 0 (MQ below (va_Qv (fun (_ : Unit) => True) (fun _ t => kE D ct ad G A y t) A) ([.ref (ad a), va_re ad p0, va_re ad p1] : List Value).toArray s 0 0 A) (F0 m 113 ls []) := by
          intro H locs ls hP hD hS hl
          refine lv_aload_n hx hb dX1_readLists_113 rfl (lv_at hl 2 rfl) ?_
          refine lv_iconst (v := (0 : Int32)) hx hb dX1_readLists_114 (by decide) ?_
          refine lv_iconst (v := (1 : Int32)) hx hb dX1_readLists_115 (by decide) ?_
          refine lv_aloadq_n hx hb dX1_readLists_116 rfl (lv_at hl 3 rfl) ?_
          refine lv_iconst (v := (2 : Int32)) hx hb dX1_readLists_117 (by decide) ?_
          obtain ⟨b16, ho16, hc16, hk16, hF⟩ := dr_some hF
          refine W_st (st' := [.int (2 : Int32), .ref (ad b16), .int (1 : Int32), .int (0 : Int32), .ref (ad a)]) (by rw [va_some ho16]) ?_
          obtain ⟨hvc, hF⟩ := chk_some hF
          refine va_iald hx hb hK hP b16 1 (wld_i ct ad G y15 hc16 hk16) rfl hvc dX1_readLists_118 ?_
          obtain ⟨x17, ex17, hF⟩ := ltt_some hF
          refine lv_topi (fun zx17 ezx17 => ?_)
          obtain rfl : x17 = zx17 := ex17.trans ezx17.symm
          refine lv_ishl hx hb dX1_readLists_119 ?_
          obtain ⟨x18, ex18, hF⟩ := ltt_some hF
          refine lv_topi (fun zx18 ezx18 => ?_)
          obtain rfl : x18 = zx18 := ex18.trans ezx18.symm
          obtain ⟨y19, hy19, hF⟩ := bnd_some hF
          have hf9 := wA_in hD hA9 hS
          refine va_callv (va_runV (As := [.int (0 : Int32), .int x18]) (rest := []) ⟨hx, hb, hml, hown, hts⟩ (kX1_readMoves l D ct ad Z G y15 H.size a ((0 : Int32)) x18 y19 hc hk hy19) (cwV 2 hts gX1_readLists_X1_readMoves rfl rfl rfl (by decide +kernel) ⟨Nat.le_of_ble_eq_true rfl, Nat.le_of_ble_eq_true rfl⟩) ⟨fun a U g mk q => by obtain ⟨q0, q1, qP, qK, qD, qZ, qN⟩ := q; exact ⟨q0, q1, qP, va_K.moved (u := U) (U := U.calling g mk a) (Vm.Alike.refl U.vm) qK, qD, sF.moved (u := U) (U := U.calling g mk a) (Vm.Alike.refl U.vm) qZ, nF.same rfl qN⟩, va_recv hK hP (ci := 1) (q0 := a) rfl (wld_o ct ad G y15 hc hk (by decide)), fun U hU hW => ⟨rfl, by rw [hU], by rw [hU]; exact hP, va_K.moved hW.alike hK, hD.weaken (fun _ _ _ _ => trivial), by rw [hU]; exact ((hZ.kept hS.2.1).narrow hf9).moved hW.alike, hN.warm hW⟩⟩ rfl rfl hl.1 rfl (lv_room (Nat.le_of_ble_eq_true rfl)) dX1_readLists_120 ⟨(Nat.zero_le _), (Nat.zero_le _)⟩) hS (fun q _ h => hf9 q h) hf9 (fun u t H locs ht hvm hw hB hz1 hk1 hS => ?_)
          obtain ⟨hP, hK9, hD9⟩ := hB
          rw [ht] at hP
          have hD := hD9.weaken (fun _ q _ h => hf9 q.1 h)
          refine lv_iload hx hb dX1_readLists_123 (lv_at hl 0 rfl) ?_
          obtain ⟨y20, hy20, hF⟩ := bnd_some hF
          have J20 : ∀ (H : Heap) (locs : List Loc) (ls : Array Slot), va_P D classes (wld ct ad G y20) H → va_D A (wld ct ad G y20) → va_S A s.heap H locs → lv_has ls 5 [(4, .int y5), (3, va_re ad (M.2 b2 0)), (0, .ref (ad a)), (1, va_re ad p0), (2, va_re ad p1)] → W p l e (headSpec wuX1_readLists ({ frames := 4, cells := 0, slots := 0, locals := 107 })).room s m ([.ref (ad a), va_re ad p0, va_re ad p1] : List Value).toArray below meth c H locs 0 0 (MQ below (va_Qv (fun (_ : Unit) => True) (fun _ t => kE D ct ad G A y t) A) ([.ref (ad a), va_re ad p0, va_re ad p1] : List Value).toArray s 0 0 A) (F0 m 138 ls []) := by
            intro H locs ls hP hD hS hl
            refine lv_iload hx hb dX1_readLists_138 (lv_at hl 0 rfl) ?_
            obtain ⟨y21, hy21, hF⟩ := bnd_some hF
            have J21 : ∀ (H : Heap) (locs : List Loc) (ls : Array Slot), va_P D classes (wld ct ad G y21) H → va_D A (wld ct ad G y21) → va_S A s.heap H locs → lv_has ls 5 [(4, .int y5), (3, va_re ad (M.2 b2 0)), (0, .ref (ad a)), (1, va_re ad p0), (2, va_re ad p1)] → W p l e (headSpec wuX1_readLists ({ frames := 4, cells := 0, slots := 0, locals := 107 })).room s m ([.ref (ad a), va_re ad p0, va_re ad p1] : List Value).toArray below meth c H locs 0 0 (MQ below (va_Qv (fun (_ : Unit) => True) (fun _ t => kE D ct ad G A y t) A) ([.ref (ad a), va_re ad p0, va_re ad p1] : List Value).toArray s 0 0 A) (F0 m 203 ls []) := by
              intro H locs ls hP hD hS hl
              obtain rfl := Option.some.inj hF
              exact W.vret hx hb hr (fun t ht hW => ⟨⟨(), rfl, trivial, ⟨by rw [ht]; exact hP, va_K.moved hW.alike hK, hD⟩⟩, hS.F ht⟩) hS.2.2 dX1_readLists_203
            clear hF
            have hF := hy21
            clear hy21
            refine lv_if_eq (tgt := 154) hx hb dX1_readLists_140 (by decide) (fun c22 => ?_) (fun c22 => ?_)
            · rw [if_pos c22] at hF
              refine lv_aloadq_n hx hb dX1_readLists_154 rfl (lv_at hl 4 rfl) ?_
              refine lv_iconst (v := (5 : Int32)) hx hb dX1_readLists_155 (by decide) ?_
              refine W_st (st' := [.int (5 : Int32), .ref (ad b8)]) (by rw [va_some ho8]) ?_
              obtain ⟨hvc, hF⟩ := chk_some hF
              refine va_iald hx hb hK hP b8 1 (wld_i ct ad G y20 hc8 hk8) rfl hvc dX1_readLists_156 ?_
              obtain ⟨x23, ex23, hF⟩ := ltt_some hF
              refine lv_topi (fun zx23 ezx23 => ?_)
              obtain rfl : x23 = zx23 := ex23.trans ezx23.symm
              refine lv_iconst (v := (1 : Int32)) hx hb dX1_readLists_157 (by decide) ?_
              obtain ⟨y24, hy24, hF⟩ := bnd_some hF
              have J24 : ∀ (H : Heap) (locs : List Loc) (ls : Array Slot), va_P D classes (wld ct ad G y24) H → va_D A (wld ct ad G y24) → va_S A s.heap H locs → lv_has ls 5 [(4, .int y5), (3, va_re ad (M.2 b2 0)), (0, .ref (ad a)), (1, va_re ad p0), (2, va_re ad p1)] → W p l e (headSpec wuX1_readLists ({ frames := 4, cells := 0, slots := 0, locals := 107 })).room s m ([.ref (ad a), va_re ad p0, va_re ad p1] : List Value).toArray below meth c H locs 0 0 (MQ below (va_Qv (fun (_ : Unit) => True) (fun _ t => kE D ct ad G A y t) A) ([.ref (ad a), va_re ad p0, va_re ad p1] : List Value).toArray s 0 0 A) (F0 m 203 ls []) := by
                intro H locs ls hP hD hS hl
                obtain rfl := Option.some.inj hF
                exact J21 _ _ _ hP hD hS (lv_sub hl [0, 1, 2, 3, 4] rfl)
              clear hF
              have hF := hy24
              clear hy24
              refine lv_icmp_ne (tgt := 203) hx hb dX1_readLists_158 (by decide) (fun c25 => ?_) (fun c25 => ?_)
              · rw [if_neg c25] at hF
                obtain rfl := Option.some.inj hF
                exact J24 _ _ _ hP hD hS (lv_sub hl [0, 1, 2, 3, 4] rfl)
              · rw [if_pos c25] at hF
                refine lv_aloadq_n hx hb dX1_readLists_161 rfl (lv_at hl 1 rfl) ?_
                refine lv_bipush (v := (22 : Int32)) hx hb dX1_readLists_162 (by decide) ?_
                refine lv_aload_n hx hb dX1_readLists_164 rfl (lv_at hl 2 rfl) ?_
                refine lv_bipush (v := (7 : Int32)) hx hb dX1_readLists_165 (by decide) ?_
                obtain ⟨y26, hy26, hF⟩ := bnd_some hF
                have hf9 := wA_in hD hA9 hS
                refine va_calli (va_runV (As := [.int (7 : Int32)]) (rest := [.int (22 : Int32), va_re ad (M.2 b2 0)]) ⟨hx, hb, hml, hown, hts⟩ (kX1_unsigned l D ct ad Z G y20 H.size a ((7 : Int32)) y26 hc hk hy26) (cwV 1 hts gX1_readLists_X1_unsigned rfl rfl rfl (by decide +kernel) ⟨Nat.le_of_ble_eq_true rfl, Nat.le_of_ble_eq_true rfl⟩) ⟨fun a U g mk q => by obtain ⟨q0, q1, qP, qK, qD, qZ, qN⟩ := q; exact ⟨q0, q1, qP, va_K.moved (u := U) (U := U.calling g mk a) (Vm.Alike.refl U.vm) qK, qD, sF.moved (u := U) (U := U.calling g mk a) (Vm.Alike.refl U.vm) qZ, nF.same rfl qN⟩, va_recv hK hP (ci := 1) (q0 := a) rfl (wld_o ct ad G y20 hc hk (by decide)), fun U hU hW => ⟨rfl, by rw [hU], by rw [hU]; exact hP, va_K.moved hW.alike hK, hD.weaken (fun _ _ _ _ => trivial), by rw [hU]; exact ((hZ.kept hS.2.1).narrow hf9).moved hW.alike, hN.warm hW⟩⟩ rfl rfl hl.1 rfl (lv_room (by simp only [List.map, va_re_cat]; exact Nat.le_of_ble_eq_true rfl)) dX1_readLists_167 ⟨(Nat.zero_le _), (Nat.zero_le _)⟩) hS (fun q _ h => hf9 q h) hf9 (fun r u t H locs ht hvm hw hB hz1 hk1 hS => ?_)
                obtain ⟨hP, hK9, hD9⟩ := hB
                rw [ht] at hP
                try dsimp only at hw
                subst hw
                have hD := hD9.weaken (fun _ q _ h => hf9 q.1 h)
                refine W_st (st' := [.int y26.2, .int (22 : Int32), .ref (ad b3)]) (by rw [va_some ho3]) ?_
                obtain ⟨hvc, hF⟩ := chk_some hF
                refine va_iast hx hb hK hP hD hS b3 1 (wld_i ct ad G y26.1 hc3 hk3) rfl hvc dX1_readLists_170 (fun H locs hP hD hS => ?_)
                obtain ⟨M27, eM27, hF⟩ := ltt_some hF
                rw [set_i ct ad G y26.1 hc3 hk3, ← eM27] at hP hD
                refine lv_aloadq_n hx hb dX1_readLists_171 rfl (lv_at hl 1 rfl) ?_
                refine lv_bipush (v := (23 : Int32)) hx hb dX1_readLists_172 (by decide) ?_
                refine lv_aload_n hx hb dX1_readLists_174 rfl (lv_at hl 2 rfl) ?_
                refine lv_bipush (v := (7 : Int32)) hx hb dX1_readLists_175 (by decide) ?_
                obtain ⟨y28, hy28, hF⟩ := bnd_some hF
                have hf9 := wA_in hD hA9 hS
                refine va_calli (va_runV (As := [.int (7 : Int32)]) (rest := [.int (23 : Int32), va_re ad (M.2 b2 0)]) ⟨hx, hb, hml, hown, hts⟩ (kX1_unsigned l D ct ad Z G M27 H.size a ((7 : Int32)) y28 hc hk hy28) (cwV 1 hts gX1_readLists_X1_unsigned rfl rfl rfl (by decide +kernel) ⟨Nat.le_of_ble_eq_true rfl, Nat.le_of_ble_eq_true rfl⟩) ⟨fun a U g mk q => by obtain ⟨q0, q1, qP, qK, qD, qZ, qN⟩ := q; exact ⟨q0, q1, qP, va_K.moved (u := U) (U := U.calling g mk a) (Vm.Alike.refl U.vm) qK, qD, sF.moved (u := U) (U := U.calling g mk a) (Vm.Alike.refl U.vm) qZ, nF.same rfl qN⟩, va_recv hK hP (ci := 1) (q0 := a) rfl (wld_o ct ad G M27 hc hk (by decide)), fun U hU hW => ⟨rfl, by rw [hU], by rw [hU]; exact hP, va_K.moved hW.alike hK, hD.weaken (fun _ _ _ _ => trivial), by rw [hU]; exact ((hZ.kept hS.2.1).narrow hf9).moved hW.alike, hN.warm hW⟩⟩ rfl rfl hl.1 rfl (lv_room (by simp only [List.map, va_re_cat]; exact Nat.le_of_ble_eq_true rfl)) dX1_readLists_177 ⟨(Nat.zero_le _), (Nat.zero_le _)⟩) hS (fun q _ h => hf9 q h) hf9 (fun r u t H locs ht hvm hw hB hz1 hk1 hS => ?_)
                obtain ⟨hP, hK9, hD9⟩ := hB
                rw [ht] at hP
                try dsimp only at hw
                subst hw
                have hD := hD9.weaken (fun _ q _ h => hf9 q.1 h)
                refine W_st (st' := [.int y28.2, .int (23 : Int32), .ref (ad b3)]) (by rw [va_some ho3]) ?_
                obtain ⟨hvc, hF⟩ := chk_some hF
                refine va_iast hx hb hK hP hD hS b3 1 (wld_i ct ad G y28.1 hc3 hk3) rfl hvc dX1_readLists_180 (fun H locs hP hD hS => ?_)
                obtain ⟨M29, eM29, hF⟩ := ltt_some hF
                rw [set_i ct ad G y28.1 hc3 hk3, ← eM29] at hP hD
                refine lv_aload_n hx hb dX1_readLists_181 rfl (lv_at hl 2 rfl) ?_
                refine va_get (D := D) (ci := 1) (v := va_re ad (M29.2 a 10)) (C := RX1) (T := TX1) (N := 22) hx hb hts (mus hf_X1) hown hK hP a (wld_o ct ad G M29 hc hk (by decide)) rfl 10 (by decide) (hts (.fieldLink RX1 68 "VideoSuite$Decoder" "head" "LVideoSuite$Header;") (mu mw_652)) (fun _ h9 => h9) rfl dX1_readLists_182 ?_
                obtain ⟨b30, ho30, hc30, hk30, hF⟩ := dr_some hF
                refine W_st (st' := [.ref (ad b30)]) (by rw [va_some ho30]) ?_
                obtain ⟨y31, hy31, hF⟩ := bnd_some hF
                have hf9 := wA_in hD hA9 hS
                refine va_callv (va_runV (As := []) (rest := []) ⟨hx, hb, hml, hown, hts⟩ (kX3_clearWeights l D ct ad Z G M29 H.size b30 y31 hc30 hk30 hy31) (cwV 0 hts gX1_readLists_X3_clearWeights rfl rfl rfl (by decide +kernel) ⟨Nat.le_of_ble_eq_true rfl, Nat.le_of_ble_eq_true rfl⟩) ⟨fun a U g mk q => by obtain ⟨q0, q1, qP, qK, qD, qZ, qN⟩ := q; exact ⟨q0, q1, qP, va_K.moved (u := U) (U := U.calling g mk a) (Vm.Alike.refl U.vm) qK, qD, sF.moved (u := U) (U := U.calling g mk a) (Vm.Alike.refl U.vm) qZ, nF.same rfl qN⟩, va_recv hK hP (ci := 3) (q0 := b30) rfl (wld_o ct ad G M29 hc30 hk30 (by decide)), fun U hU hW => ⟨rfl, by rw [hU], by rw [hU]; exact hP, va_K.moved hW.alike hK, hD.weaken (fun _ _ _ _ => trivial), by rw [hU]; exact ((hZ.kept hS.2.1).narrow hf9).moved hW.alike, hN.warm hW⟩⟩ rfl rfl hl.1 rfl (lv_room (Nat.le_of_ble_eq_true rfl)) dX1_readLists_185 ⟨(Nat.zero_le _), (Nat.zero_le _)⟩) hS (fun q _ h => hf9 q h) hf9 (fun u t H locs ht hvm hw hB hz1 hk1 hS => ?_)
                obtain ⟨hP, hK9, hD9⟩ := hB
                rw [ht] at hP
                have hD := hD9.weaken (fun _ q _ h => hf9 q.1 h)
                refine lv_aload_n hx hb dX1_readLists_188 rfl (lv_at hl 2 rfl) ?_
                refine lv_iconst (v := (0 : Int32)) hx hb dX1_readLists_189 (by decide) ?_
                obtain ⟨y32, hy32, hF⟩ := bnd_some hF
                have hf9 := wA_in hD hA9 hS
                refine va_callv (va_runV (As := [.int (0 : Int32)]) (rest := []) ⟨hx, hb, hml, hown, hts⟩ (kX1_readWeights l D ct ad Z G y31 H.size a ((0 : Int32)) y32 hc hk hy32) (cwV 1 hts gX1_readLists_X1_readWeights rfl rfl rfl (by decide +kernel) ⟨Nat.le_of_ble_eq_true rfl, Nat.le_of_ble_eq_true rfl⟩) ⟨fun a U g mk q => by obtain ⟨q0, q1, qP, qK, qD, qZ, qN⟩ := q; exact ⟨q0, q1, qP, va_K.moved (u := U) (U := U.calling g mk a) (Vm.Alike.refl U.vm) qK, qD, sF.moved (u := U) (U := U.calling g mk a) (Vm.Alike.refl U.vm) qZ, nF.same rfl qN⟩, va_recv hK hP (ci := 1) (q0 := a) rfl (wld_o ct ad G y31 hc hk (by decide)), fun U hU hW => ⟨rfl, by rw [hU], by rw [hU]; exact hP, va_K.moved hW.alike hK, hD.weaken (fun _ _ _ _ => trivial), by rw [hU]; exact ((hZ.kept hS.2.1).narrow hf9).moved hW.alike, hN.warm hW⟩⟩ rfl rfl hl.1 rfl (lv_room (Nat.le_of_ble_eq_true rfl)) dX1_readLists_190 ⟨(Nat.zero_le _), (Nat.zero_le _)⟩) hS (fun q _ h => hf9 q h) hf9 (fun u t H locs ht hvm hw hB hz1 hk1 hS => ?_)
                obtain ⟨hP, hK9, hD9⟩ := hB
                rw [ht] at hP
                have hD := hD9.weaken (fun _ q _ h => hf9 q.1 h)
                refine lv_iload hx hb dX1_readLists_193 (lv_at hl 0 rfl) ?_
                obtain ⟨y33, hy33, hF⟩ := bnd_some hF
                have J33 : ∀ (H : Heap) (locs : List Loc) (ls : Array Slot), va_P D classes (wld ct ad G y33) H → va_D A (wld ct ad G y33) → va_S A s.heap H locs → lv_has ls 5 [(4, .int y5), (3, va_re ad (M.2 b2 0)), (0, .ref (ad a)), (1, va_re ad p0), (2, va_re ad p1)] → W p l e (headSpec wuX1_readLists ({ frames := 4, cells := 0, slots := 0, locals := 107 })).room s m ([.ref (ad a), va_re ad p0, va_re ad p1] : List Value).toArray below meth c H locs 0 0 (MQ below (va_Qv (fun (_ : Unit) => True) (fun _ t => kE D ct ad G A y t) A) ([.ref (ad a), va_re ad p0, va_re ad p1] : List Value).toArray s 0 0 A) (F0 m 203 ls []) := by
                  intro H locs ls hP hD hS hl
                  obtain rfl := Option.some.inj hF
                  exact J24 _ _ _ hP hD hS (lv_sub hl [0, 1, 2, 3, 4] rfl)
                clear hF
                have hF := hy33
                clear hy33
                refine lv_if_eq (tgt := 203) hx hb dX1_readLists_195 (by decide) (fun c34 => ?_) (fun c34 => ?_)
                · rw [if_pos c34] at hF
                  obtain rfl := Option.some.inj hF
                  exact J33 _ _ _ hP hD hS (lv_sub hl [0, 1, 2, 3, 4] rfl)
                · rw [if_neg c34] at hF
                  refine lv_aload_n hx hb dX1_readLists_198 rfl (lv_at hl 2 rfl) ?_
                  refine lv_iconst (v := (1 : Int32)) hx hb dX1_readLists_199 (by decide) ?_
                  obtain ⟨y35, hy35, hF⟩ := bnd_some hF
                  have hf9 := wA_in hD hA9 hS
                  refine va_callv (va_runV (As := [.int (1 : Int32)]) (rest := []) ⟨hx, hb, hml, hown, hts⟩ (kX1_readWeights l D ct ad Z G y32 H.size a ((1 : Int32)) y35 hc hk hy35) (cwV 1 hts gX1_readLists_X1_readWeights rfl rfl rfl (by decide +kernel) ⟨Nat.le_of_ble_eq_true rfl, Nat.le_of_ble_eq_true rfl⟩) ⟨fun a U g mk q => by obtain ⟨q0, q1, qP, qK, qD, qZ, qN⟩ := q; exact ⟨q0, q1, qP, va_K.moved (u := U) (U := U.calling g mk a) (Vm.Alike.refl U.vm) qK, qD, sF.moved (u := U) (U := U.calling g mk a) (Vm.Alike.refl U.vm) qZ, nF.same rfl qN⟩, va_recv hK hP (ci := 1) (q0 := a) rfl (wld_o ct ad G y32 hc hk (by decide)), fun U hU hW => ⟨rfl, by rw [hU], by rw [hU]; exact hP, va_K.moved hW.alike hK, hD.weaken (fun _ _ _ _ => trivial), by rw [hU]; exact ((hZ.kept hS.2.1).narrow hf9).moved hW.alike, hN.warm hW⟩⟩ rfl rfl hl.1 rfl (lv_room (Nat.le_of_ble_eq_true rfl)) dX1_readLists_200 ⟨(Nat.zero_le _), (Nat.zero_le _)⟩) hS (fun q _ h => hf9 q h) hf9 (fun u t H locs ht hvm hw hB hz1 hk1 hS => ?_)
                  obtain ⟨hP, hK9, hD9⟩ := hB
                  rw [ht] at hP
                  have hD := hD9.weaken (fun _ q _ h => hf9 q.1 h)
                  obtain rfl := Option.some.inj hF
                  exact J33 _ _ _ hP hD hS (lv_sub hl [0, 1, 2, 3, 4] rfl)
            · rw [if_neg c22] at hF
              refine lv_aloadq_n hx hb dX1_readLists_143 rfl (lv_at hl 4 rfl) ?_
              refine lv_bipush (v := (6 : Int32)) hx hb dX1_readLists_144 (by decide) ?_
              refine W_st (st' := [.int (6 : Int32), .ref (ad b8)]) (by rw [va_some ho8]) ?_
              obtain ⟨hvc, hF⟩ := chk_some hF
              refine va_iald hx hb hK hP b8 1 (wld_i ct ad G y20 hc8 hk8) rfl hvc dX1_readLists_146 ?_
              obtain ⟨x36, ex36, hF⟩ := ltt_some hF
              refine lv_topi (fun zx36 ezx36 => ?_)
              obtain rfl : x36 = zx36 := ex36.trans ezx36.symm
              refine lv_iconst (v := (1 : Int32)) hx hb dX1_readLists_147 (by decide) ?_
              obtain ⟨y37, hy37, hF⟩ := bnd_some hF
              have J37 : ∀ (H : Heap) (locs : List Loc) (ls : Array Slot), va_P D classes (wld ct ad G y37) H → va_D A (wld ct ad G y37) → va_S A s.heap H locs → lv_has ls 5 [(4, .int y5), (3, va_re ad (M.2 b2 0)), (0, .ref (ad a)), (1, va_re ad p0), (2, va_re ad p1)] → W p l e (headSpec wuX1_readLists ({ frames := 4, cells := 0, slots := 0, locals := 107 })).room s m ([.ref (ad a), va_re ad p0, va_re ad p1] : List Value).toArray below meth c H locs 0 0 (MQ below (va_Qv (fun (_ : Unit) => True) (fun _ t => kE D ct ad G A y t) A) ([.ref (ad a), va_re ad p0, va_re ad p1] : List Value).toArray s 0 0 A) (F0 m 203 ls []) := by
                intro H locs ls hP hD hS hl
                obtain rfl := Option.some.inj hF
                exact J21 _ _ _ hP hD hS (lv_sub hl [0, 1, 2, 3, 4] rfl)
              clear hF
              have hF := hy37
              clear hy37
              refine lv_icmp_ne (tgt := 203) hx hb dX1_readLists_148 (by decide) (fun c38 => ?_) (fun c38 => ?_)
              · rw [if_neg c38] at hF
                obtain rfl := Option.some.inj hF
                exact J37 _ _ _ hP hD hS (lv_sub hl [0, 1, 2, 3, 4] rfl)
              · rw [if_pos c38] at hF
                refine lv_goto (tgt := 161) hx hb dX1_readLists_151 (by decide) ?_
                refine lv_aloadq_n hx hb dX1_readLists_161 rfl (lv_at hl 1 rfl) ?_
                refine lv_bipush (v := (22 : Int32)) hx hb dX1_readLists_162 (by decide) ?_
                refine lv_aload_n hx hb dX1_readLists_164 rfl (lv_at hl 2 rfl) ?_
                refine lv_bipush (v := (7 : Int32)) hx hb dX1_readLists_165 (by decide) ?_
                obtain ⟨y39, hy39, hF⟩ := bnd_some hF
                have hf9 := wA_in hD hA9 hS
                refine va_calli (va_runV (As := [.int (7 : Int32)]) (rest := [.int (22 : Int32), va_re ad (M.2 b2 0)]) ⟨hx, hb, hml, hown, hts⟩ (kX1_unsigned l D ct ad Z G y20 H.size a ((7 : Int32)) y39 hc hk hy39) (cwV 1 hts gX1_readLists_X1_unsigned rfl rfl rfl (by decide +kernel) ⟨Nat.le_of_ble_eq_true rfl, Nat.le_of_ble_eq_true rfl⟩) ⟨fun a U g mk q => by obtain ⟨q0, q1, qP, qK, qD, qZ, qN⟩ := q; exact ⟨q0, q1, qP, va_K.moved (u := U) (U := U.calling g mk a) (Vm.Alike.refl U.vm) qK, qD, sF.moved (u := U) (U := U.calling g mk a) (Vm.Alike.refl U.vm) qZ, nF.same rfl qN⟩, va_recv hK hP (ci := 1) (q0 := a) rfl (wld_o ct ad G y20 hc hk (by decide)), fun U hU hW => ⟨rfl, by rw [hU], by rw [hU]; exact hP, va_K.moved hW.alike hK, hD.weaken (fun _ _ _ _ => trivial), by rw [hU]; exact ((hZ.kept hS.2.1).narrow hf9).moved hW.alike, hN.warm hW⟩⟩ rfl rfl hl.1 rfl (lv_room (by simp only [List.map, va_re_cat]; exact Nat.le_of_ble_eq_true rfl)) dX1_readLists_167 ⟨(Nat.zero_le _), (Nat.zero_le _)⟩) hS (fun q _ h => hf9 q h) hf9 (fun r u t H locs ht hvm hw hB hz1 hk1 hS => ?_)
                obtain ⟨hP, hK9, hD9⟩ := hB
                rw [ht] at hP
                try dsimp only at hw
                subst hw
                have hD := hD9.weaken (fun _ q _ h => hf9 q.1 h)
                refine W_st (st' := [.int y39.2, .int (22 : Int32), .ref (ad b3)]) (by rw [va_some ho3]) ?_
                obtain ⟨hvc, hF⟩ := chk_some hF
                refine va_iast hx hb hK hP hD hS b3 1 (wld_i ct ad G y39.1 hc3 hk3) rfl hvc dX1_readLists_170 (fun H locs hP hD hS => ?_)
                obtain ⟨M40, eM40, hF⟩ := ltt_some hF
                rw [set_i ct ad G y39.1 hc3 hk3, ← eM40] at hP hD
                refine lv_aloadq_n hx hb dX1_readLists_171 rfl (lv_at hl 1 rfl) ?_
                refine lv_bipush (v := (23 : Int32)) hx hb dX1_readLists_172 (by decide) ?_
                refine lv_aload_n hx hb dX1_readLists_174 rfl (lv_at hl 2 rfl) ?_
                refine lv_bipush (v := (7 : Int32)) hx hb dX1_readLists_175 (by decide) ?_
                obtain ⟨y41, hy41, hF⟩ := bnd_some hF
                have hf9 := wA_in hD hA9 hS
                refine va_calli (va_runV (As := [.int (7 : Int32)]) (rest := [.int (23 : Int32), va_re ad (M.2 b2 0)]) ⟨hx, hb, hml, hown, hts⟩ (kX1_unsigned l D ct ad Z G M40 H.size a ((7 : Int32)) y41 hc hk hy41) (cwV 1 hts gX1_readLists_X1_unsigned rfl rfl rfl (by decide +kernel) ⟨Nat.le_of_ble_eq_true rfl, Nat.le_of_ble_eq_true rfl⟩) ⟨fun a U g mk q => by obtain ⟨q0, q1, qP, qK, qD, qZ, qN⟩ := q; exact ⟨q0, q1, qP, va_K.moved (u := U) (U := U.calling g mk a) (Vm.Alike.refl U.vm) qK, qD, sF.moved (u := U) (U := U.calling g mk a) (Vm.Alike.refl U.vm) qZ, nF.same rfl qN⟩, va_recv hK hP (ci := 1) (q0 := a) rfl (wld_o ct ad G M40 hc hk (by decide)), fun U hU hW => ⟨rfl, by rw [hU], by rw [hU]; exact hP, va_K.moved hW.alike hK, hD.weaken (fun _ _ _ _ => trivial), by rw [hU]; exact ((hZ.kept hS.2.1).narrow hf9).moved hW.alike, hN.warm hW⟩⟩ rfl rfl hl.1 rfl (lv_room (by simp only [List.map, va_re_cat]; exact Nat.le_of_ble_eq_true rfl)) dX1_readLists_177 ⟨(Nat.zero_le _), (Nat.zero_le _)⟩) hS (fun q _ h => hf9 q h) hf9 (fun r u t H locs ht hvm hw hB hz1 hk1 hS => ?_)
                obtain ⟨hP, hK9, hD9⟩ := hB
                rw [ht] at hP
                try dsimp only at hw
                subst hw
                have hD := hD9.weaken (fun _ q _ h => hf9 q.1 h)
                refine W_st (st' := [.int y41.2, .int (23 : Int32), .ref (ad b3)]) (by rw [va_some ho3]) ?_
                obtain ⟨hvc, hF⟩ := chk_some hF
                refine va_iast hx hb hK hP hD hS b3 1 (wld_i ct ad G y41.1 hc3 hk3) rfl hvc dX1_readLists_180 (fun H locs hP hD hS => ?_)
                obtain ⟨M42, eM42, hF⟩ := ltt_some hF
                rw [set_i ct ad G y41.1 hc3 hk3, ← eM42] at hP hD
                refine lv_aload_n hx hb dX1_readLists_181 rfl (lv_at hl 2 rfl) ?_
                refine va_get (D := D) (ci := 1) (v := va_re ad (M42.2 a 10)) (C := RX1) (T := TX1) (N := 22) hx hb hts (mus hf_X1) hown hK hP a (wld_o ct ad G M42 hc hk (by decide)) rfl 10 (by decide) (hts (.fieldLink RX1 68 "VideoSuite$Decoder" "head" "LVideoSuite$Header;") (mu mw_652)) (fun _ h9 => h9) rfl dX1_readLists_182 ?_
                obtain ⟨b43, ho43, hc43, hk43, hF⟩ := dr_some hF
                refine W_st (st' := [.ref (ad b43)]) (by rw [va_some ho43]) ?_
                obtain ⟨y44, hy44, hF⟩ := bnd_some hF
                have hf9 := wA_in hD hA9 hS
                refine va_callv (va_runV (As := []) (rest := []) ⟨hx, hb, hml, hown, hts⟩ (kX3_clearWeights l D ct ad Z G M42 H.size b43 y44 hc43 hk43 hy44) (cwV 0 hts gX1_readLists_X3_clearWeights rfl rfl rfl (by decide +kernel) ⟨Nat.le_of_ble_eq_true rfl, Nat.le_of_ble_eq_true rfl⟩) ⟨fun a U g mk q => by obtain ⟨q0, q1, qP, qK, qD, qZ, qN⟩ := q; exact ⟨q0, q1, qP, va_K.moved (u := U) (U := U.calling g mk a) (Vm.Alike.refl U.vm) qK, qD, sF.moved (u := U) (U := U.calling g mk a) (Vm.Alike.refl U.vm) qZ, nF.same rfl qN⟩, va_recv hK hP (ci := 3) (q0 := b43) rfl (wld_o ct ad G M42 hc43 hk43 (by decide)), fun U hU hW => ⟨rfl, by rw [hU], by rw [hU]; exact hP, va_K.moved hW.alike hK, hD.weaken (fun _ _ _ _ => trivial), by rw [hU]; exact ((hZ.kept hS.2.1).narrow hf9).moved hW.alike, hN.warm hW⟩⟩ rfl rfl hl.1 rfl (lv_room (Nat.le_of_ble_eq_true rfl)) dX1_readLists_185 ⟨(Nat.zero_le _), (Nat.zero_le _)⟩) hS (fun q _ h => hf9 q h) hf9 (fun u t H locs ht hvm hw hB hz1 hk1 hS => ?_)
                obtain ⟨hP, hK9, hD9⟩ := hB
                rw [ht] at hP
                have hD := hD9.weaken (fun _ q _ h => hf9 q.1 h)
                refine lv_aload_n hx hb dX1_readLists_188 rfl (lv_at hl 2 rfl) ?_
                refine lv_iconst (v := (0 : Int32)) hx hb dX1_readLists_189 (by decide) ?_
                obtain ⟨y45, hy45, hF⟩ := bnd_some hF
                have hf9 := wA_in hD hA9 hS
                refine va_callv (va_runV (As := [.int (0 : Int32)]) (rest := []) ⟨hx, hb, hml, hown, hts⟩ (kX1_readWeights l D ct ad Z G y44 H.size a ((0 : Int32)) y45 hc hk hy45) (cwV 1 hts gX1_readLists_X1_readWeights rfl rfl rfl (by decide +kernel) ⟨Nat.le_of_ble_eq_true rfl, Nat.le_of_ble_eq_true rfl⟩) ⟨fun a U g mk q => by obtain ⟨q0, q1, qP, qK, qD, qZ, qN⟩ := q; exact ⟨q0, q1, qP, va_K.moved (u := U) (U := U.calling g mk a) (Vm.Alike.refl U.vm) qK, qD, sF.moved (u := U) (U := U.calling g mk a) (Vm.Alike.refl U.vm) qZ, nF.same rfl qN⟩, va_recv hK hP (ci := 1) (q0 := a) rfl (wld_o ct ad G y44 hc hk (by decide)), fun U hU hW => ⟨rfl, by rw [hU], by rw [hU]; exact hP, va_K.moved hW.alike hK, hD.weaken (fun _ _ _ _ => trivial), by rw [hU]; exact ((hZ.kept hS.2.1).narrow hf9).moved hW.alike, hN.warm hW⟩⟩ rfl rfl hl.1 rfl (lv_room (Nat.le_of_ble_eq_true rfl)) dX1_readLists_190 ⟨(Nat.zero_le _), (Nat.zero_le _)⟩) hS (fun q _ h => hf9 q h) hf9 (fun u t H locs ht hvm hw hB hz1 hk1 hS => ?_)
                obtain ⟨hP, hK9, hD9⟩ := hB
                rw [ht] at hP
                have hD := hD9.weaken (fun _ q _ h => hf9 q.1 h)
                refine lv_iload hx hb dX1_readLists_193 (lv_at hl 0 rfl) ?_
                obtain ⟨y46, hy46, hF⟩ := bnd_some hF
                have J46 : ∀ (H : Heap) (locs : List Loc) (ls : Array Slot), va_P D classes (wld ct ad G y46) H → va_D A (wld ct ad G y46) → va_S A s.heap H locs → lv_has ls 5 [(4, .int y5), (3, va_re ad (M.2 b2 0)), (0, .ref (ad a)), (1, va_re ad p0), (2, va_re ad p1)] → W p l e (headSpec wuX1_readLists ({ frames := 4, cells := 0, slots := 0, locals := 107 })).room s m ([.ref (ad a), va_re ad p0, va_re ad p1] : List Value).toArray below meth c H locs 0 0 (MQ below (va_Qv (fun (_ : Unit) => True) (fun _ t => kE D ct ad G A y t) A) ([.ref (ad a), va_re ad p0, va_re ad p1] : List Value).toArray s 0 0 A) (F0 m 203 ls []) := by
                  intro H locs ls hP hD hS hl
                  obtain rfl := Option.some.inj hF
                  exact J37 _ _ _ hP hD hS (lv_sub hl [0, 1, 2, 3, 4] rfl)
                clear hF
                have hF := hy46
                clear hy46
                refine lv_if_eq (tgt := 203) hx hb dX1_readLists_195 (by decide) (fun c47 => ?_) (fun c47 => ?_)
                · rw [if_pos c47] at hF
                  obtain rfl := Option.some.inj hF
                  exact J46 _ _ _ hP hD hS (lv_sub hl [0, 1, 2, 3, 4] rfl)
                · rw [if_neg c47] at hF
                  refine lv_aload_n hx hb dX1_readLists_198 rfl (lv_at hl 2 rfl) ?_
                  refine lv_iconst (v := (1 : Int32)) hx hb dX1_readLists_199 (by decide) ?_
                  obtain ⟨y48, hy48, hF⟩ := bnd_some hF
                  have hf9 := wA_in hD hA9 hS
                  refine va_callv (va_runV (As := [.int (1 : Int32)]) (rest := []) ⟨hx, hb, hml, hown, hts⟩ (kX1_readWeights l D ct ad Z G y45 H.size a ((1 : Int32)) y48 hc hk hy48) (cwV 1 hts gX1_readLists_X1_readWeights rfl rfl rfl (by decide +kernel) ⟨Nat.le_of_ble_eq_true rfl, Nat.le_of_ble_eq_true rfl⟩) ⟨fun a U g mk q => by obtain ⟨q0, q1, qP, qK, qD, qZ, qN⟩ := q; exact ⟨q0, q1, qP, va_K.moved (u := U) (U := U.calling g mk a) (Vm.Alike.refl U.vm) qK, qD, sF.moved (u := U) (U := U.calling g mk a) (Vm.Alike.refl U.vm) qZ, nF.same rfl qN⟩, va_recv hK hP (ci := 1) (q0 := a) rfl (wld_o ct ad G y45 hc hk (by decide)), fun U hU hW => ⟨rfl, by rw [hU], by rw [hU]; exact hP, va_K.moved hW.alike hK, hD.weaken (fun _ _ _ _ => trivial), by rw [hU]; exact ((hZ.kept hS.2.1).narrow hf9).moved hW.alike, hN.warm hW⟩⟩ rfl rfl hl.1 rfl (lv_room (Nat.le_of_ble_eq_true rfl)) dX1_readLists_200 ⟨(Nat.zero_le _), (Nat.zero_le _)⟩) hS (fun q _ h => hf9 q h) hf9 (fun u t H locs ht hvm hw hB hz1 hk1 hS => ?_)
                  obtain ⟨hP, hK9, hD9⟩ := hB
                  rw [ht] at hP
                  have hD := hD9.weaken (fun _ q _ h => hf9 q.1 h)
                  obtain rfl := Option.some.inj hF
                  exact J46 _ _ _ hP hD hS (lv_sub hl [0, 1, 2, 3, 4] rfl)
          clear hF
          have hF := hy20
          clear hy20
          refine lv_if_eq (tgt := 138) hx hb dX1_readLists_125 (by decide) (fun c49 => ?_) (fun c49 => ?_)
          · rw [if_pos c49] at hF
            obtain rfl := Option.some.inj hF
            exact J20 _ _ _ hP hD hS (lv_sub hl [0, 1, 2, 3, 4] rfl)
          · rw [if_neg c49] at hF
            refine lv_aload_n hx hb dX1_readLists_128 rfl (lv_at hl 2 rfl) ?_
            refine lv_iconst (v := (1 : Int32)) hx hb dX1_readLists_129 (by decide) ?_
            refine lv_iconst (v := (1 : Int32)) hx hb dX1_readLists_130 (by decide) ?_
            refine lv_aloadq_n hx hb dX1_readLists_131 rfl (lv_at hl 3 rfl) ?_
            refine lv_iconst (v := (2 : Int32)) hx hb dX1_readLists_132 (by decide) ?_
            refine W_st (st' := [.int (2 : Int32), .ref (ad b16), .int (1 : Int32), .int (1 : Int32), .ref (ad a)]) (by rw [va_some ho16]) ?_
            obtain ⟨hvc, hF⟩ := chk_some hF
            refine va_iald hx hb hK hP b16 1 (wld_i ct ad G y19 hc16 hk16) rfl hvc dX1_readLists_133 ?_
            obtain ⟨x50, ex50, hF⟩ := ltt_some hF
            refine lv_topi (fun zx50 ezx50 => ?_)
            obtain rfl : x50 = zx50 := ex50.trans ezx50.symm
            refine lv_ishl hx hb dX1_readLists_134 ?_
            obtain ⟨x51, ex51, hF⟩ := ltt_some hF
            refine lv_topi (fun zx51 ezx51 => ?_)
            obtain rfl : x51 = zx51 := ex51.trans ezx51.symm
            obtain ⟨y52, hy52, hF⟩ := bnd_some hF
            have hf9 := wA_in hD hA9 hS
            refine va_callv (va_runV (As := [.int (1 : Int32), .int x51]) (rest := []) ⟨hx, hb, hml, hown, hts⟩ (kX1_readMoves l D ct ad Z G y19 H.size a ((1 : Int32)) x51 y52 hc hk hy52) (cwV 2 hts gX1_readLists_X1_readMoves rfl rfl rfl (by decide +kernel) ⟨Nat.le_of_ble_eq_true rfl, Nat.le_of_ble_eq_true rfl⟩) ⟨fun a U g mk q => by obtain ⟨q0, q1, qP, qK, qD, qZ, qN⟩ := q; exact ⟨q0, q1, qP, va_K.moved (u := U) (U := U.calling g mk a) (Vm.Alike.refl U.vm) qK, qD, sF.moved (u := U) (U := U.calling g mk a) (Vm.Alike.refl U.vm) qZ, nF.same rfl qN⟩, va_recv hK hP (ci := 1) (q0 := a) rfl (wld_o ct ad G y19 hc hk (by decide)), fun U hU hW => ⟨rfl, by rw [hU], by rw [hU]; exact hP, va_K.moved hW.alike hK, hD.weaken (fun _ _ _ _ => trivial), by rw [hU]; exact ((hZ.kept hS.2.1).narrow hf9).moved hW.alike, hN.warm hW⟩⟩ rfl rfl hl.1 rfl (lv_room (Nat.le_of_ble_eq_true rfl)) dX1_readLists_135 ⟨(Nat.zero_le _), (Nat.zero_le _)⟩) hS (fun q _ h => hf9 q h) hf9 (fun u t H locs ht hvm hw hB hz1 hk1 hS => ?_)
            obtain ⟨hP, hK9, hD9⟩ := hB
            rw [ht] at hP
            have hD := hD9.weaken (fun _ q _ h => hf9 q.1 h)
            obtain rfl := Option.some.inj hF
            exact J20 _ _ _ hP hD hS (lv_sub hl [0, 1, 2, 3, 4] rfl)
        clear hF
        have hF := hy15
        clear hy15
        refine lv_icmp_ne (tgt := 113) hx hb dX1_readLists_77 (by decide) (fun c53 => ?_) (fun c53 => ?_)
        · rw [if_neg c53] at hF
          obtain rfl := Option.some.inj hF
          exact J15 _ _ _ hP hD hS (lv_sub hl [0, 1, 2, 3, 4] rfl)
        · rw [if_pos c53] at hF
          refine lv_aloadq_n hx hb dX1_readLists_80 rfl (lv_at hl 1 rfl) ?_
          refine lv_bipush (v := (9 : Int32)) hx hb dX1_readLists_81 (by decide) ?_
          refine lv_aload_n hx hb dX1_readLists_83 rfl (lv_at hl 2 rfl) ?_
          refine lv_bipush (v := (7 : Int32)) hx hb dX1_readLists_84 (by decide) ?_
          obtain ⟨y54, hy54, hF⟩ := bnd_some hF
          have hf9 := wA_in hD hA9 hS
          refine va_calli (va_runV (As := [.int (7 : Int32)]) (rest := [.int (9 : Int32), va_re ad (M.2 b2 0)]) ⟨hx, hb, hml, hown, hts⟩ (kX1_unsigned l D ct ad Z G y14.1 H.size a ((7 : Int32)) y54 hc hk hy54) (cwV 1 hts gX1_readLists_X1_unsigned rfl rfl rfl (by decide +kernel) ⟨Nat.le_of_ble_eq_true rfl, Nat.le_of_ble_eq_true rfl⟩) ⟨fun a U g mk q => by obtain ⟨q0, q1, qP, qK, qD, qZ, qN⟩ := q; exact ⟨q0, q1, qP, va_K.moved (u := U) (U := U.calling g mk a) (Vm.Alike.refl U.vm) qK, qD, sF.moved (u := U) (U := U.calling g mk a) (Vm.Alike.refl U.vm) qZ, nF.same rfl qN⟩, va_recv hK hP (ci := 1) (q0 := a) rfl (wld_o ct ad G y14.1 hc hk (by decide)), fun U hU hW => ⟨rfl, by rw [hU], by rw [hU]; exact hP, va_K.moved hW.alike hK, hD.weaken (fun _ _ _ _ => trivial), by rw [hU]; exact ((hZ.kept hS.2.1).narrow hf9).moved hW.alike, hN.warm hW⟩⟩ rfl rfl hl.1 rfl (lv_room (by simp only [List.map, va_re_cat]; exact Nat.le_of_ble_eq_true rfl)) dX1_readLists_86 ⟨(Nat.zero_le _), (Nat.zero_le _)⟩) hS (fun q _ h => hf9 q h) hf9 (fun r u t H locs ht hvm hw hB hz1 hk1 hS => ?_)
          obtain ⟨hP, hK9, hD9⟩ := hB
          rw [ht] at hP
          try dsimp only at hw
          subst hw
          have hD := hD9.weaken (fun _ q _ h => hf9 q.1 h)
          refine lv_iconst (v := (1 : Int32)) hx hb dX1_readLists_89 (by decide) ?_
          refine lv_iadd hx hb dX1_readLists_90 ?_
          obtain ⟨x55, ex55, hF⟩ := ltt_some hF
          refine lv_topi (fun zx55 ezx55 => ?_)
          obtain rfl : x55 = zx55 := ex55.trans ezx55.symm
          refine W_st (st' := [.int x55, .int (9 : Int32), .ref (ad b3)]) (by rw [va_some ho3]) ?_
          obtain ⟨hvc, hF⟩ := chk_some hF
          refine va_iast hx hb hK hP hD hS b3 1 (wld_i ct ad G y54.1 hc3 hk3) rfl hvc dX1_readLists_91 (fun H locs hP hD hS => ?_)
          obtain ⟨M56, eM56, hF⟩ := ltt_some hF
          rw [set_i ct ad G y54.1 hc3 hk3, ← eM56] at hP hD
          refine lv_aloadq_n hx hb dX1_readLists_92 rfl (lv_at hl 1 rfl) ?_
          refine lv_bipush (v := (10 : Int32)) hx hb dX1_readLists_93 (by decide) ?_
          refine lv_iload hx hb dX1_readLists_95 (lv_at hl 0 rfl) ?_
          obtain ⟨y57, hy57, hF⟩ := bnd_some hF
          have J57 : ∀ (H : Heap) (locs : List Loc) (ls : Array Slot), va_P D classes (wld ct ad G y57.2) H → va_D A (wld ct ad G y57.2) → va_S A s.heap H locs → lv_has ls 5 [(4, .int y5), (3, va_re ad (M.2 b2 0)), (0, .ref (ad a)), (1, va_re ad p0), (2, va_re ad p1)] → W p l e (headSpec wuX1_readLists ({ frames := 4, cells := 0, slots := 0, locals := 107 })).room s m ([.ref (ad a), va_re ad p0, va_re ad p1] : List Value).toArray below meth c H locs 0 0 (MQ below (va_Qv (fun (_ : Unit) => True) (fun _ t => kE D ct ad G A y t) A) ([.ref (ad a), va_re ad p0, va_re ad p1] : List Value).toArray s 0 0 A) (F0 m 112 ls [.int y57.1, .int (10 : Int32), va_re ad (M.2 b2 0)]) := by
            intro H locs ls hP hD hS hl
            refine W_st (st' := [.int y57.1, .int (10 : Int32), .ref (ad b3)]) (by rw [va_some ho3]) ?_
            obtain ⟨hvc, hF⟩ := chk_some hF
            refine va_iast hx hb hK hP hD hS b3 1 (wld_i ct ad G y57.2 hc3 hk3) rfl hvc dX1_readLists_112 (fun H locs hP hD hS => ?_)
            obtain ⟨M58, eM58, hF⟩ := ltt_some hF
            rw [set_i ct ad G y57.2 hc3 hk3, ← eM58] at hP hD
            obtain rfl := Option.some.inj hF
            exact J15 _ _ _ hP hD hS (lv_sub hl [0, 1, 2, 3, 4] rfl)
          clear hF
          have hF := hy57
          clear hy57
          refine lv_if_eq (tgt := 111) hx hb dX1_readLists_97 (by decide) (fun c59 => ?_) (fun c59 => ?_)
          · rw [if_pos c59] at hF
            refine lv_iconst (v := (0 : Int32)) hx hb dX1_readLists_111 (by decide) ?_
            obtain rfl := Option.some.inj hF
            exact J57 _ _ _ hP hD hS (lv_sub hl [0, 1, 2, 3, 4] rfl)
          · rw [if_neg c59] at hF
            refine lv_aload_n hx hb dX1_readLists_100 rfl (lv_at hl 2 rfl) ?_
            refine lv_bipush (v := (7 : Int32)) hx hb dX1_readLists_101 (by decide) ?_
            obtain ⟨y60, hy60, hF⟩ := bnd_some hF
            have hf9 := wA_in hD hA9 hS
            refine va_calli (va_runV (As := [.int (7 : Int32)]) (rest := [.int (10 : Int32), va_re ad (M.2 b2 0)]) ⟨hx, hb, hml, hown, hts⟩ (kX1_unsigned l D ct ad Z G M56 H.size a ((7 : Int32)) y60 hc hk hy60) (cwV 1 hts gX1_readLists_X1_unsigned rfl rfl rfl (by decide +kernel) ⟨Nat.le_of_ble_eq_true rfl, Nat.le_of_ble_eq_true rfl⟩) ⟨fun a U g mk q => by obtain ⟨q0, q1, qP, qK, qD, qZ, qN⟩ := q; exact ⟨q0, q1, qP, va_K.moved (u := U) (U := U.calling g mk a) (Vm.Alike.refl U.vm) qK, qD, sF.moved (u := U) (U := U.calling g mk a) (Vm.Alike.refl U.vm) qZ, nF.same rfl qN⟩, va_recv hK hP (ci := 1) (q0 := a) rfl (wld_o ct ad G M56 hc hk (by decide)), fun U hU hW => ⟨rfl, by rw [hU], by rw [hU]; exact hP, va_K.moved hW.alike hK, hD.weaken (fun _ _ _ _ => trivial), by rw [hU]; exact ((hZ.kept hS.2.1).narrow hf9).moved hW.alike, hN.warm hW⟩⟩ rfl rfl hl.1 rfl (lv_room (by simp only [List.map, va_re_cat]; exact Nat.le_of_ble_eq_true rfl)) dX1_readLists_103 ⟨(Nat.zero_le _), (Nat.zero_le _)⟩) hS (fun q _ h => hf9 q h) hf9 (fun r u t H locs ht hvm hw hB hz1 hk1 hS => ?_)
            obtain ⟨hP, hK9, hD9⟩ := hB
            rw [ht] at hP
            try dsimp only at hw
            subst hw
            have hD := hD9.weaken (fun _ q _ h => hf9 q.1 h)
            refine lv_iconst (v := (1 : Int32)) hx hb dX1_readLists_106 (by decide) ?_
            refine lv_iadd hx hb dX1_readLists_107 ?_
            obtain ⟨x61, ex61, hF⟩ := ltt_some hF
            refine lv_topi (fun zx61 ezx61 => ?_)
            obtain rfl : x61 = zx61 := ex61.trans ezx61.symm
            refine lv_goto (tgt := 112) hx hb dX1_readLists_108 (by decide) ?_
            obtain rfl := Option.some.inj hF
            exact J57 _ _ _ hP hD hS (lv_sub hl [0, 1, 2, 3, 4] rfl)
      clear hF
      have hF := hy11
      clear hy11
      refine lv_if_eq (tgt := 65) hx hb dX1_readLists_56 (by decide) (fun c62 => ?_) (fun c62 => ?_)
      · rw [if_pos c62] at hF
        refine lv_iconst (v := (0 : Int32)) hx hb dX1_readLists_65 (by decide) ?_
        obtain rfl := Option.some.inj hF
        exact J11 _ _ _ hP hD hS (lv_sub hl [0, 1, 2, 3, 4] rfl)
      · rw [if_neg c62] at hF
        refine lv_aloadq_n hx hb dX1_readLists_59 rfl (lv_at hl 4 rfl) ?_
        refine lv_iconst (v := (4 : Int32)) hx hb dX1_readLists_60 (by decide) ?_
        refine W_st (st' := [.int (4 : Int32), .ref (ad b8), .int (10 : Int32), va_re ad (M.2 b2 0)]) (by rw [va_some ho8]) ?_
        obtain ⟨hvc, hF⟩ := chk_some hF
        refine va_iald hx hb hK hP b8 1 (wld_i ct ad G M10 hc8 hk8) rfl hvc dX1_readLists_61 ?_
        obtain ⟨x63, ex63, hF⟩ := ltt_some hF
        refine lv_topi (fun zx63 ezx63 => ?_)
        obtain rfl : x63 = zx63 := ex63.trans ezx63.symm
        refine lv_goto (tgt := 66) hx hb dX1_readLists_62 (by decide) ?_
        obtain rfl := Option.some.inj hF
        exact J11 _ _ _ hP hD hS (lv_sub hl [0, 1, 2, 3, 4] rfl)
    clear hF
    have hF := hy6
    clear hy6
    refine lv_if_eq (tgt := 42) hx hb dX1_readLists_27 (by decide) (fun c64 => ?_) (fun c64 => ?_)
    · rw [if_pos c64] at hF
      refine lv_iconst (v := (0 : Int32)) hx hb dX1_readLists_42 (by decide) ?_
      obtain rfl := Option.some.inj hF
      exact J6 _ _ _ hP hD hS (lv_sub hl [0, 1, 2, 3, 4] rfl)
    · rw [if_neg c64] at hF
      refine lv_aload_n hx hb dX1_readLists_30 rfl (lv_at hl 2 rfl) ?_
      refine va_get (D := D) (ci := 1) (v := va_re ad (M.2 a 0)) (C := RX1) (T := TX1) (N := 22) hx hb hts (mus hf_X1) hown hK hP a (wld_o ct ad G M hc hk (by decide)) rfl 0 (by decide) (hts (.fieldLink RX1 12 "VideoSuite$Decoder" "reader" "LVideoSuite$Reader;") (mu mw_640)) (fun _ h9 => h9) rfl dX1_readLists_31 ?_
      refine lv_iconst (v := (0 : Int32)) hx hb dX1_readLists_34 (by decide) ?_
      refine lv_iconst (v := (1 : Int32)) hx hb dX1_readLists_35 (by decide) ?_
      obtain ⟨b65, ho65, hc65, hk65, hF⟩ := dr_some hF
      refine W_st (st' := [.int (1 : Int32), .int (0 : Int32), .ref (ad b65), .int (8 : Int32), va_re ad (M.2 b2 0)]) (by rw [va_some ho65]) ?_
      obtain ⟨y66, hy66, hF⟩ := bnd_some hF
      have hf9 := wA_in hD hA9 hS
      refine va_calli (va_runV (As := [.int (0 : Int32), .int (1 : Int32)]) (rest := [.int (8 : Int32), va_re ad (M.2 b2 0)]) ⟨hx, hb, hml, hown, hts⟩ (kX5_fixed l D ct ad Z G M H.size b65 ((0 : Int32)) ((1 : Int32)) y66 hc65 hk65 hy66) (cwV 2 hts gX1_readLists_X5_fixed rfl rfl rfl (by decide +kernel) ⟨Nat.le_of_ble_eq_true rfl, Nat.le_of_ble_eq_true rfl⟩) ⟨fun a U g mk q => by obtain ⟨q0, q1, qP, qK, qD, qZ, qN⟩ := q; exact ⟨q0, q1, qP, va_K.moved (u := U) (U := U.calling g mk a) (Vm.Alike.refl U.vm) qK, qD, sF.moved (u := U) (U := U.calling g mk a) (Vm.Alike.refl U.vm) qZ, nF.same rfl qN⟩, va_recv hK hP (ci := 5) (q0 := b65) rfl (wld_o ct ad G M hc65 hk65 (by decide)), fun U hU hW => ⟨rfl, by rw [hU], by rw [hU]; exact hP, va_K.moved hW.alike hK, hD.weaken (fun _ _ _ _ => trivial), by rw [hU]; exact ((hZ.kept hS.2.1).narrow hf9).moved hW.alike, hN.warm hW⟩⟩ rfl rfl hl.1 rfl (lv_room (by simp only [List.map, va_re_cat]; exact Nat.le_of_ble_eq_true rfl)) dX1_readLists_36 ⟨(Nat.zero_le _), (Nat.zero_le _)⟩) hS (fun q _ h => hf9 q h) hf9 (fun r u t H locs ht hvm hw hB hz1 hk1 hS => ?_)
      obtain ⟨hP, hK9, hD9⟩ := hB
      rw [ht] at hP
      try dsimp only at hw
      subst hw
      have hD := hD9.weaken (fun _ q _ h => hf9 q.1 h)
      refine lv_goto (tgt := 43) hx hb dX1_readLists_39 (by decide) ?_
      obtain rfl := Option.some.inj hF
      exact J6 _ _ _ hP hD hS (lv_sub hl [0, 1, 2, 3, 4] rfl)
  clear hF
  have hF := hy5
  clear hy5
  refine lv_icmp_ne (tgt := 19) hx hb dX1_readLists_12 (by decide) (fun c67 => ?_) (fun c67 => ?_)
  · rw [if_neg c67] at hF
    refine lv_iconst (v := (0 : Int32)) hx hb dX1_readLists_19 (by decide) ?_
    obtain rfl := Option.some.inj hF
    exact J5 _ _ _ hP hD hS (lv_sub hl [0, 1, 2, 3] rfl)
  · rw [if_pos c67] at hF
    refine lv_iconst (v := (1 : Int32)) hx hb dX1_readLists_15 (by decide) ?_
    refine lv_goto (tgt := 20) hx hb dX1_readLists_16 (by decide) ?_
    obtain rfl := Option.some.inj hF
    exact J5 _ _ _ hP hD hS (lv_sub hl [0, 1, 2, 3] rfl)
set_option maxRecDepth 20000 in
theorem gX1_readSequence_J7_fill_53178 : GoodIn wuX1_readSequence (va_wsS RX1 91 yJ7_fill_53178 wuJ7_fill_53178) := gu_S mw_1325 mw_1125 mw_182 mw_1126
set_option maxRecDepth 20000 in
set_option maxRecDepth 20000 in
theorem gX1_readSequence_X5_fixed : GoodIn wuX1_readSequence (wsV RX1 183 RX5 yX5_fixed wuX5_fixed) := gu_V mw_1355 mw_1356 mw_1357 mw_169 mw_1358
set_option maxRecDepth 20000 in
set_option maxRecDepth 20000 in
theorem gX1_readSequence_X1_unsigned : GoodIn wuX1_readSequence (wsV RX1 186 RX1 yX1_unsigned wuX1_unsigned) := gu_V mw_1350 mw_1352 mw_34 mw_168 mw_1353
set_option maxRecDepth 20000 in
set_option maxRecDepth 20000 in
theorem gX1_readSequence_X5_expect : GoodIn wuX1_readSequence (wsV RX1 200 RX5 yX5_expect wuX5_expect) := gu_V mw_2277 mw_2278 mw_2279 mw_169 mw_2280
set_option maxRecDepth 20000 in
theorem gX1_readSequence_X1_readTurns : GoodIn wuX1_readSequence (wsV RX1 190 RX1 yX1_readTurns wuX1_readTurns) := gu_V mw_2273 mw_2275 mw_108 mw_168 mw_2276
set_option maxRecDepth 20000 in
theorem dX1_readSequence_0 : decode cX1_readSequence 0 = .ok (.aload_n 0, 1) := by decide +kernel
theorem dX1_readSequence_1 : decode cX1_readSequence 1 = .ok (.getfield 62, 3) := by decide +kernel
theorem dX1_readSequence_4 : decode cX1_readSequence 4 = .ok (.astore_n 1, 1) := by decide +kernel
theorem dX1_readSequence_5 : decode cX1_readSequence 5 = .ok (.aload_n 1, 1) := by decide +kernel
theorem dX1_readSequence_6 : decode cX1_readSequence 6 = .ok (.iconst 0, 1) := by decide +kernel
theorem dX1_readSequence_7 : decode cX1_readSequence 7 = .ok (.invokestatic 91, 3) := by decide +kernel
theorem dX1_readSequence_10 : decode cX1_readSequence 10 = .ok (.aload_n 0, 1) := by decide +kernel
theorem dX1_readSequence_11 : decode cX1_readSequence 11 = .ok (.getfield 12, 3) := by decide +kernel
theorem dX1_readSequence_14 : decode cX1_readSequence 14 = .ok (.iconst 0, 1) := by decide +kernel
theorem dX1_readSequence_15 : decode cX1_readSequence 15 = .ok (.bipush 8, 2) := by decide +kernel
theorem dX1_readSequence_17 : decode cX1_readSequence 17 = .ok (.invokevirtual 183, 3) := by decide +kernel
theorem dX1_readSequence_20 : decode cX1_readSequence 20 = .ok (.pop, 1) := by decide +kernel
theorem dX1_readSequence_21 : decode cX1_readSequence 21 = .ok (.aload_n 0, 1) := by decide +kernel
theorem dX1_readSequence_22 : decode cX1_readSequence 22 = .ok (.getfield 12, 3) := by decide +kernel
theorem dX1_readSequence_25 : decode cX1_readSequence 25 = .ok (.iconst 0, 1) := by decide +kernel
theorem dX1_readSequence_26 : decode cX1_readSequence 26 = .ok (.bipush 8, 2) := by decide +kernel
theorem dX1_readSequence_28 : decode cX1_readSequence 28 = .ok (.invokevirtual 183, 3) := by decide +kernel
theorem dX1_readSequence_31 : decode cX1_readSequence 31 = .ok (.pop, 1) := by decide +kernel
theorem dX1_readSequence_32 : decode cX1_readSequence 32 = .ok (.aload_n 0, 1) := by decide +kernel
theorem dX1_readSequence_33 : decode cX1_readSequence 33 = .ok (.getfield 12, 3) := by decide +kernel
theorem dX1_readSequence_36 : decode cX1_readSequence 36 = .ok (.iconst 0, 1) := by decide +kernel
theorem dX1_readSequence_37 : decode cX1_readSequence 37 = .ok (.bipush 8, 2) := by decide +kernel
theorem dX1_readSequence_39 : decode cX1_readSequence 39 = .ok (.invokevirtual 183, 3) := by decide +kernel
theorem dX1_readSequence_42 : decode cX1_readSequence 42 = .ok (.pop, 1) := by decide +kernel
theorem dX1_readSequence_43 : decode cX1_readSequence 43 = .ok (.aload_n 0, 1) := by decide +kernel
theorem dX1_readSequence_44 : decode cX1_readSequence 44 = .ok (.iconst 3, 1) := by decide +kernel
theorem dX1_readSequence_45 : decode cX1_readSequence 45 = .ok (.invokevirtual 186, 3) := by decide +kernel
theorem dX1_readSequence_48 : decode cX1_readSequence 48 = .ok (.istore_n 2, 1) := by decide +kernel
theorem dX1_readSequence_49 : decode cX1_readSequence 49 = .ok (.aload_n 1, 1) := by decide +kernel
theorem dX1_readSequence_50 : decode cX1_readSequence 50 = .ok (.iconst 2, 1) := by decide +kernel
theorem dX1_readSequence_51 : decode cX1_readSequence 51 = .ok (.aload_n 0, 1) := by decide +kernel
theorem dX1_readSequence_52 : decode cX1_readSequence 52 = .ok (.bipush 12, 2) := by decide +kernel
theorem dX1_readSequence_54 : decode cX1_readSequence 54 = .ok (.invokevirtual 186, 3) := by decide +kernel
theorem dX1_readSequence_57 : decode cX1_readSequence 57 = .ok (.iconst 4, 1) := by decide +kernel
theorem dX1_readSequence_58 : decode cX1_readSequence 58 = .ok (.iadd, 1) := by decide +kernel
theorem dX1_readSequence_59 : decode cX1_readSequence 59 = .ok (.iastore, 1) := by decide +kernel
theorem dX1_readSequence_60 : decode cX1_readSequence 60 = .ok (.aload_n 1, 1) := by decide +kernel
theorem dX1_readSequence_61 : decode cX1_readSequence 61 = .ok (.iconst 3, 1) := by decide +kernel
theorem dX1_readSequence_62 : decode cX1_readSequence 62 = .ok (.aload_n 0, 1) := by decide +kernel
theorem dX1_readSequence_63 : decode cX1_readSequence 63 = .ok (.iconst 2, 1) := by decide +kernel
theorem dX1_readSequence_64 : decode cX1_readSequence 64 = .ok (.invokevirtual 186, 3) := by decide +kernel
theorem dX1_readSequence_67 : decode cX1_readSequence 67 = .ok (.iastore, 1) := by decide +kernel
theorem dX1_readSequence_68 : decode cX1_readSequence 68 = .ok (.aload_n 1, 1) := by decide +kernel
theorem dX1_readSequence_69 : decode cX1_readSequence 69 = .ok (.iconst 3, 1) := by decide +kernel
theorem dX1_readSequence_70 : decode cX1_readSequence 70 = .ok (.iaload, 1) := by decide +kernel
theorem dX1_readSequence_71 : decode cX1_readSequence 71 = .ok (.ifCond .ne 17, 3) := by decide +kernel
theorem dX1_readSequence_74 : decode cX1_readSequence 74 = .ok (.aload_n 1, 1) := by decide +kernel
theorem dX1_readSequence_75 : decode cX1_readSequence 75 = .ok (.iconst 4, 1) := by decide +kernel
theorem dX1_readSequence_76 : decode cX1_readSequence 76 = .ok (.aload_n 0, 1) := by decide +kernel
theorem dX1_readSequence_77 : decode cX1_readSequence 77 = .ok (.bipush 12, 2) := by decide +kernel
theorem dX1_readSequence_79 : decode cX1_readSequence 79 = .ok (.invokevirtual 186, 3) := by decide +kernel
theorem dX1_readSequence_82 : decode cX1_readSequence 82 = .ok (.iconst 4, 1) := by decide +kernel
theorem dX1_readSequence_83 : decode cX1_readSequence 83 = .ok (.iadd, 1) := by decide +kernel
theorem dX1_readSequence_84 : decode cX1_readSequence 84 = .ok (.iastore, 1) := by decide +kernel
theorem dX1_readSequence_85 : decode cX1_readSequence 85 = .ok (.goto 15, 3) := by decide +kernel
theorem dX1_readSequence_88 : decode cX1_readSequence 88 = .ok (.aload_n 1, 1) := by decide +kernel
theorem dX1_readSequence_89 : decode cX1_readSequence 89 = .ok (.iconst 3, 1) := by decide +kernel
theorem dX1_readSequence_90 : decode cX1_readSequence 90 = .ok (.iaload, 1) := by decide +kernel
theorem dX1_readSequence_91 : decode cX1_readSequence 91 = .ok (.iconst 1, 1) := by decide +kernel
theorem dX1_readSequence_92 : decode cX1_readSequence 92 = .ok (.if_icmp .ne 8, 3) := by decide +kernel
theorem dX1_readSequence_95 : decode cX1_readSequence 95 = .ok (.aload_n 0, 1) := by decide +kernel
theorem dX1_readSequence_96 : decode cX1_readSequence 96 = .ok (.aload_n 1, 1) := by decide +kernel
theorem dX1_readSequence_97 : decode cX1_readSequence 97 = .ok (.invokevirtual 190, 3) := by decide +kernel
theorem dX1_readSequence_100 : decode cX1_readSequence 100 = .ok (.aload_n 1, 1) := by decide +kernel
theorem dX1_readSequence_101 : decode cX1_readSequence 101 = .ok (.iconst 5, 1) := by decide +kernel
theorem dX1_readSequence_102 : decode cX1_readSequence 102 = .ok (.aload_n 0, 1) := by decide +kernel
theorem dX1_readSequence_103 : decode cX1_readSequence 103 = .ok (.iconst 4, 1) := by decide +kernel
theorem dX1_readSequence_104 : decode cX1_readSequence 104 = .ok (.invokevirtual 186, 3) := by decide +kernel
theorem dX1_readSequence_107 : decode cX1_readSequence 107 = .ok (.iastore, 1) := by decide +kernel
theorem dX1_readSequence_108 : decode cX1_readSequence 108 = .ok (.aload_n 1, 1) := by decide +kernel
theorem dX1_readSequence_109 : decode cX1_readSequence 109 = .ok (.bipush 6, 2) := by decide +kernel
theorem dX1_readSequence_111 : decode cX1_readSequence 111 = .ok (.aload_n 0, 1) := by decide +kernel
theorem dX1_readSequence_112 : decode cX1_readSequence 112 = .ok (.getfield 12, 3) := by decide +kernel
theorem dX1_readSequence_115 : decode cX1_readSequence 115 = .ok (.iconst 0, 1) := by decide +kernel
theorem dX1_readSequence_116 : decode cX1_readSequence 116 = .ok (.iconst 1, 1) := by decide +kernel
theorem dX1_readSequence_117 : decode cX1_readSequence 117 = .ok (.invokevirtual 183, 3) := by decide +kernel
theorem dX1_readSequence_120 : decode cX1_readSequence 120 = .ok (.iastore, 1) := by decide +kernel
theorem dX1_readSequence_121 : decode cX1_readSequence 121 = .ok (.aload_n 1, 1) := by decide +kernel
theorem dX1_readSequence_122 : decode cX1_readSequence 122 = .ok (.iconst 0, 1) := by decide +kernel
theorem dX1_readSequence_123 : decode cX1_readSequence 123 = .ok (.aload_n 0, 1) := by decide +kernel
theorem dX1_readSequence_124 : decode cX1_readSequence 124 = .ok (.bipush 7, 2) := by decide +kernel
theorem dX1_readSequence_126 : decode cX1_readSequence 126 = .ok (.invokevirtual 186, 3) := by decide +kernel
theorem dX1_readSequence_129 : decode cX1_readSequence 129 = .ok (.iconst 1, 1) := by decide +kernel
theorem dX1_readSequence_130 : decode cX1_readSequence 130 = .ok (.iadd, 1) := by decide +kernel
theorem dX1_readSequence_131 : decode cX1_readSequence 131 = .ok (.iastore, 1) := by decide +kernel
theorem dX1_readSequence_132 : decode cX1_readSequence 132 = .ok (.aload_n 1, 1) := by decide +kernel
theorem dX1_readSequence_133 : decode cX1_readSequence 133 = .ok (.iconst 1, 1) := by decide +kernel
theorem dX1_readSequence_134 : decode cX1_readSequence 134 = .ok (.aload_n 0, 1) := by decide +kernel
theorem dX1_readSequence_135 : decode cX1_readSequence 135 = .ok (.bipush 7, 2) := by decide +kernel
theorem dX1_readSequence_137 : decode cX1_readSequence 137 = .ok (.invokevirtual 186, 3) := by decide +kernel
theorem dX1_readSequence_140 : decode cX1_readSequence 140 = .ok (.iconst 1, 1) := by decide +kernel
theorem dX1_readSequence_141 : decode cX1_readSequence 141 = .ok (.iadd, 1) := by decide +kernel
theorem dX1_readSequence_142 : decode cX1_readSequence 142 = .ok (.iastore, 1) := by decide +kernel
theorem dX1_readSequence_143 : decode cX1_readSequence 143 = .ok (.aload_n 1, 1) := by decide +kernel
theorem dX1_readSequence_144 : decode cX1_readSequence 144 = .ok (.iconst 0, 1) := by decide +kernel
theorem dX1_readSequence_145 : decode cX1_readSequence 145 = .ok (.iaload, 1) := by decide +kernel
theorem dX1_readSequence_146 : decode cX1_readSequence 146 = .ok (.aload_n 1, 1) := by decide +kernel
theorem dX1_readSequence_147 : decode cX1_readSequence 147 = .ok (.iconst 1, 1) := by decide +kernel
theorem dX1_readSequence_148 : decode cX1_readSequence 148 = .ok (.iaload, 1) := by decide +kernel
theorem dX1_readSequence_149 : decode cX1_readSequence 149 = .ok (.imul, 1) := by decide +kernel
theorem dX1_readSequence_150 : decode cX1_readSequence 150 = .ok (.bipush 32, 2) := by decide +kernel
theorem dX1_readSequence_152 : decode cX1_readSequence 152 = .ok (.if_icmp .le 18, 3) := by decide +kernel
theorem dX1_readSequence_155 : decode cX1_readSequence 155 = .ok (.aload_n 0, 1) := by decide +kernel
theorem dX1_readSequence_156 : decode cX1_readSequence 156 = .ok (.getfield 12, 3) := by decide +kernel
theorem dX1_readSequence_159 : decode cX1_readSequence 159 = .ok (.iconst 2, 1) := by decide +kernel
theorem dX1_readSequence_160 : decode cX1_readSequence 160 = .ok (.aload_n 0, 1) := by decide +kernel
theorem dX1_readSequence_161 : decode cX1_readSequence 161 = .ok (.getfield 12, 3) := by decide +kernel
theorem dX1_readSequence_164 : decode cX1_readSequence 164 = .ok (.getfield 194, 3) := by decide +kernel
theorem dX1_readSequence_167 : decode cX1_readSequence 167 = .ok (.invokevirtual 197, 3) := by decide +kernel
theorem dX1_readSequence_170 : decode cX1_readSequence 170 = .ok (.aload_n 0, 1) := by decide +kernel
theorem dX1_readSequence_171 : decode cX1_readSequence 171 = .ok (.getfield 12, 3) := by decide +kernel
theorem dX1_readSequence_174 : decode cX1_readSequence 174 = .ok (.iconst 1, 1) := by decide +kernel
theorem dX1_readSequence_175 : decode cX1_readSequence 175 = .ok (.invokevirtual 200, 3) := by decide +kernel
theorem dX1_readSequence_178 : decode cX1_readSequence 178 = .ok (.aload_n 0, 1) := by decide +kernel
theorem dX1_readSequence_179 : decode cX1_readSequence 179 = .ok (.getfield 12, 3) := by decide +kernel
theorem dX1_readSequence_182 : decode cX1_readSequence 182 = .ok (.iconst 1, 1) := by decide +kernel
theorem dX1_readSequence_183 : decode cX1_readSequence 183 = .ok (.invokevirtual 200, 3) := by decide +kernel
theorem dX1_readSequence_186 : decode cX1_readSequence 186 = .ok (.aload_n 0, 1) := by decide +kernel
theorem dX1_readSequence_187 : decode cX1_readSequence 187 = .ok (.getfield 12, 3) := by decide +kernel
theorem dX1_readSequence_190 : decode cX1_readSequence 190 = .ok (.iconst 0, 1) := by decide +kernel
theorem dX1_readSequence_191 : decode cX1_readSequence 191 = .ok (.iconst 1, 1) := by decide +kernel
theorem dX1_readSequence_192 : decode cX1_readSequence 192 = .ok (.invokevirtual 183, 3) := by decide +kernel
theorem dX1_readSequence_195 : decode cX1_readSequence 195 = .ok (.istore_n 3, 1) := by decide +kernel
theorem dX1_readSequence_196 : decode cX1_readSequence 196 = .ok (.iconst 0, 1) := by decide +kernel
theorem dX1_readSequence_197 : decode cX1_readSequence 197 = .ok (.istore 4, 2) := by decide +kernel
theorem dX1_readSequence_199 : decode cX1_readSequence 199 = .ok (.iload 4, 2) := by decide +kernel
theorem dX1_readSequence_201 : decode cX1_readSequence 201 = .ok (.iconst 4, 1) := by decide +kernel
theorem dX1_readSequence_202 : decode cX1_readSequence 202 = .ok (.if_icmp .ge 26, 3) := by decide +kernel
theorem dX1_readSequence_205 : decode cX1_readSequence 205 = .ok (.iload_n 3, 1) := by decide +kernel
theorem dX1_readSequence_206 : decode cX1_readSequence 206 = .ok (.iconst 1, 1) := by decide +kernel
theorem dX1_readSequence_207 : decode cX1_readSequence 207 = .ok (.if_icmp .ne 21, 3) := by decide +kernel
theorem dX1_readSequence_210 : decode cX1_readSequence 210 = .ok (.aload_n 1, 1) := by decide +kernel
theorem dX1_readSequence_211 : decode cX1_readSequence 211 = .ok (.bipush 7, 2) := by decide +kernel
theorem dX1_readSequence_213 : decode cX1_readSequence 213 = .ok (.iload 4, 2) := by decide +kernel
theorem dX1_readSequence_215 : decode cX1_readSequence 215 = .ok (.iadd, 1) := by decide +kernel
theorem dX1_readSequence_216 : decode cX1_readSequence 216 = .ok (.aload_n 0, 1) := by decide +kernel
theorem dX1_readSequence_217 : decode cX1_readSequence 217 = .ok (.iconst 3, 1) := by decide +kernel
theorem dX1_readSequence_218 : decode cX1_readSequence 218 = .ok (.invokevirtual 186, 3) := by decide +kernel
theorem dX1_readSequence_221 : decode cX1_readSequence 221 = .ok (.iastore, 1) := by decide +kernel
theorem dX1_readSequence_222 : decode cX1_readSequence 222 = .ok (.iinc 4 1, 3) := by decide +kernel
theorem dX1_readSequence_225 : decode cX1_readSequence 225 = .ok (.goto (-26), 3) := by decide +kernel
theorem dX1_readSequence_228 : decode cX1_readSequence 228 = .ok (.aload_n 0, 1) := by decide +kernel
theorem dX1_readSequence_229 : decode cX1_readSequence 229 = .ok (.getfield 12, 3) := by decide +kernel
theorem dX1_readSequence_232 : decode cX1_readSequence 232 = .ok (.iconst 0, 1) := by decide +kernel
theorem dX1_readSequence_233 : decode cX1_readSequence 233 = .ok (.invokevirtual 200, 3) := by decide +kernel
theorem dX1_readSequence_236 : decode cX1_readSequence 236 = .ok (.aload_n 1, 1) := by decide +kernel
theorem dX1_readSequence_237 : decode cX1_readSequence 237 = .ok (.bipush 23, 2) := by decide +kernel
theorem dX1_readSequence_239 : decode cX1_readSequence 239 = .ok (.iconst 1, 1) := by decide +kernel
theorem dX1_readSequence_240 : decode cX1_readSequence 240 = .ok (.iastore, 1) := by decide +kernel
theorem dX1_readSequence_241 : decode cX1_readSequence 241 = .ok (.aload_n 1, 1) := by decide +kernel
theorem dX1_readSequence_242 : decode cX1_readSequence 242 = .ok (.iconst 0, 1) := by decide +kernel
theorem dX1_readSequence_243 : decode cX1_readSequence 243 = .ok (.aload_n 0, 1) := by decide +kernel
theorem dX1_readSequence_244 : decode cX1_readSequence 244 = .ok (.getfield 48, 3) := by decide +kernel
theorem dX1_readSequence_247 : decode cX1_readSequence 247 = .ok (.iload_n 2, 1) := by decide +kernel
theorem dX1_readSequence_248 : decode cX1_readSequence 248 = .ok (.aaload, 1) := by decide +kernel
theorem dX1_readSequence_249 : decode cX1_readSequence 249 = .ok (.iconst 0, 1) := by decide +kernel
theorem dX1_readSequence_250 : decode cX1_readSequence 250 = .ok (.bipush 24, 2) := by decide +kernel
theorem dX1_readSequence_252 : decode cX1_readSequence 252 = .ok (.invokestatic 203, 3) := by decide +kernel
theorem dX1_readSequence_255 : decode cX1_readSequence 255 = .ok (.return_, 1) := by decide +kernel
def FX1_readSequence (G : GG) (M : DD) (a : Nat)  : Option (DD) :=
  bnd (FJ7_fill_53178 G M ((M.2 a 9)) ((0 : Int32))) fun y1 =>
  dr G 5 ((y1.2 a 0)) fun b2 =>
  bnd (FX5_fixed G y1 b2 ((0 : Int32)) ((8 : Int32))) fun y3 =>
  dr G 5 ((y3.1.2 a 0)) fun b4 =>
  bnd (FX5_fixed G y3.1 b4 ((0 : Int32)) ((8 : Int32))) fun y5 =>
  dr G 5 ((y5.1.2 a 0)) fun b6 =>
  bnd (FX5_fixed G y5.1 b6 ((0 : Int32)) ((8 : Int32))) fun y7 =>
  bnd (FX1_unsigned G y7.1 a ((3 : Int32))) fun y8 =>
  bnd (FX1_unsigned G y8.1 a ((12 : Int32))) fun y9 =>
  ltt ((y9.2 + ((4 : Int32)))) fun x10 =>
  dr G 13 ((M.2 a 9)) fun b11 =>
  chk (¬ (((2 : Int32)) < 0 ∨ G.2.2 b11 ≤ ((2 : Int32)).toNatClampNeg)) <|
  ltt (uI y9.1 b11 ((2 : Int32)).toNatClampNeg x10) fun M12 =>
  bnd (FX1_unsigned G M12 a ((2 : Int32))) fun y13 =>
  chk (¬ (((3 : Int32)) < 0 ∨ G.2.2 b11 ≤ ((3 : Int32)).toNatClampNeg)) <|
  ltt (uI y13.1 b11 ((3 : Int32)).toNatClampNeg y13.2) fun M14 =>
  chk (¬ (((3 : Int32)) < 0 ∨ G.2.2 b11 ≤ ((3 : Int32)).toNatClampNeg)) <|
  ltt (M14.1 b11 ((3 : Int32)).toNatClampNeg) fun x15 =>
  bnd (if x15 = ((0 : Int32)) then (bnd (FX1_unsigned G M14 a ((12 : Int32))) fun y62 =>
  ltt ((y62.2 + ((4 : Int32)))) fun x63 =>
  chk (¬ (((4 : Int32)) < 0 ∨ G.2.2 b11 ≤ ((4 : Int32)).toNatClampNeg)) <|
  ltt (uI y62.1 b11 ((4 : Int32)).toNatClampNeg x63) fun M64 =>
  some (M64)) else
  (chk (¬ (((3 : Int32)) < 0 ∨ G.2.2 b11 ≤ ((3 : Int32)).toNatClampNeg)) <|
  ltt (M14.1 b11 ((3 : Int32)).toNatClampNeg) fun x58 =>
  bnd (if x58 = ((1 : Int32)) then (bnd (FX1_readTurns G M14 a ((M.2 a 9))) fun y61 =>
  some (y61)) else
  (some (M14))) fun (y59 : DD) =>
  some (y59))) fun (y16 : DD) =>
  bnd (FX1_unsigned G y16 a ((4 : Int32))) fun y17 =>
  chk (¬ (((5 : Int32)) < 0 ∨ G.2.2 b11 ≤ ((5 : Int32)).toNatClampNeg)) <|
  ltt (uI y17.1 b11 ((5 : Int32)).toNatClampNeg y17.2) fun M18 =>
  dr G 5 ((M18.2 a 0)) fun b19 =>
  bnd (FX5_fixed G M18 b19 ((0 : Int32)) ((1 : Int32))) fun y20 =>
  chk (¬ (((6 : Int32)) < 0 ∨ G.2.2 b11 ≤ ((6 : Int32)).toNatClampNeg)) <|
  ltt (uI y20.1 b11 ((6 : Int32)).toNatClampNeg y20.2) fun M21 =>
  bnd (FX1_unsigned G M21 a ((7 : Int32))) fun y22 =>
  ltt ((y22.2 + ((1 : Int32)))) fun x23 =>
  chk (¬ (((0 : Int32)) < 0 ∨ G.2.2 b11 ≤ ((0 : Int32)).toNatClampNeg)) <|
  ltt (uI y22.1 b11 ((0 : Int32)).toNatClampNeg x23) fun M24 =>
  bnd (FX1_unsigned G M24 a ((7 : Int32))) fun y25 =>
  ltt ((y25.2 + ((1 : Int32)))) fun x26 =>
  chk (¬ (((1 : Int32)) < 0 ∨ G.2.2 b11 ≤ ((1 : Int32)).toNatClampNeg)) <|
  ltt (uI y25.1 b11 ((1 : Int32)).toNatClampNeg x26) fun M27 =>
  chk (¬ (((0 : Int32)) < 0 ∨ G.2.2 b11 ≤ ((0 : Int32)).toNatClampNeg)) <|
  ltt (M27.1 b11 ((0 : Int32)).toNatClampNeg) fun x28 =>
  chk (¬ (((1 : Int32)) < 0 ∨ G.2.2 b11 ≤ ((1 : Int32)).toNatClampNeg)) <|
  ltt (M27.1 b11 ((1 : Int32)).toNatClampNeg) fun x29 =>
  ltt ((x28 * x29)) fun x30 =>
  bnd (if x30 ≤ ((32 : Int32)) then (some (M27)) else
  (dr G 5 ((M27.2 a 0)) fun b55 =>
  ltt (M27.1 b55 4) fun x56 =>
  none)) fun (y31 : DD) =>
  dr G 5 ((y31.2 a 0)) fun b32 =>
  bnd (FX5_expect G y31 b32 ((1 : Int32))) fun y33 =>
  dr G 5 ((y33.2 a 0)) fun b34 =>
  bnd (FX5_expect G y33 b34 ((1 : Int32))) fun y35 =>
  dr G 5 ((y35.2 a 0)) fun b36 =>
  bnd (FX5_fixed G y35 b36 ((0 : Int32)) ((1 : Int32))) fun y37 =>
  bnd (itr (fun (s39 : Int32 × DD) => ((if ((4 : Int32)) ≤ s39.1 then (some (.inr (s39.1, s39.2))) else
  (if y37.2 = ((1 : Int32)) then (ltt ((((7 : Int32)) + s39.1)) fun x50 =>
  bnd (FX1_unsigned G s39.2 a ((3 : Int32))) fun y51 =>
  chk (¬ (x50 < 0 ∨ G.2.2 b11 ≤ x50.toNatClampNeg)) <|
  ltt (uI y51.1 b11 x50.toNatClampNeg y51.2) fun M52 =>
  ltt (s39.1 + (1 : Int32)) fun x53 =>
  some (.inl (x53, M52))) else
  (some (.inr (s39.1, s39.2))))) : Option ((Int32 × DD) ⊕ (Int32 × DD)))) 1000000 ((0 : Int32), y37.1)) fun (y38 : Int32 × DD) =>
  dr G 5 ((y38.2.2 a 0)) fun b41 =>
  bnd (FX5_expect G y38.2 b41 ((0 : Int32))) fun y42 =>
  chk (¬ (((23 : Int32)) < 0 ∨ G.2.2 b11 ≤ ((23 : Int32)).toNatClampNeg)) <|
  ltt (uI y42 b11 ((23 : Int32)).toNatClampNeg ((1 : Int32))) fun M43 =>
  dr G 15 ((M43.2 a 5)) fun b44 =>
  chk (¬ (y8.2 < 0 ∨ G.2.2 b44 ≤ y8.2.toNatClampNeg)) <|
  dr G 13 ((M43.2 b44 y8.2.toNatClampNeg)) fun b45 =>
  chk (¬ ((0 : Int32)) < 0 ∧ ¬ ((0 : Int32)) < 0 ∧ ¬ ((24 : Int32)) < 0 ∧ ((0 : Int32)).toNatClampNeg + ((24 : Int32)).toNatClampNeg ≤ G.2.2 b11 ∧ ((0 : Int32)).toNatClampNeg + ((24 : Int32)).toNatClampNeg ≤ G.2.2 b45) <|
  ltt (rI M43 b45 (va_cpy (M43.1 b11) (M43.1 b45) ((0 : Int32)).toNatClampNeg ((0 : Int32)).toNatClampNeg ((24 : Int32)).toNatClampNeg)) fun M46 =>
  some M46
set_option maxHeartbeats 4000000 in
set_option maxRecDepth 100000 in
theorem kX1_readSequence (l : Launch) (D : va_G) (ct : CT) (ad : Nat → Nat) (Z : Nat → Nat) (G : GG) (M : DD) (sz : Nat) (a : Nat)  (y : DD) (hc : a < G.1) (hk : G.2.1 a = 1) (hF : FX1_readSequence G M a  = some y) : Met l yX1_readSequence wuX1_readSequence ({ frames := 4, cells := 0, slots := 0, locals := 103 }) (va_Pc [.ref (ad a)] (kB D ct ad Z G M sz)) (va_Qv (fun (_ : Unit) => True) (fun _ t => kE D ct ad G (wA ad G sz) y t) (wA ad G sz)) 0 0 (wA ad G sz) := by
  refine Met.ofW (cc := cX1_readSequence) (maxL := 5) (ret := none) (by decide) rfl ?_
  intro p e s m args below meth c s₁ B hml hv
  obtain ⟨rfl, hsz, hP, hK, hD0, hZ, hN⟩ := hv
  have hx := B.exec
  have hb := B.bytes
  have hr := B.returns
  have hts := atoms_spec (ws := wuX1_readSequence) B.pre
  have hown : s.vm.findClass RX1 = some m.cls := findClass_of_methodNamed B.named
  have hlocks := B.notSynchronized
  subst hsz
  have hD := wD_self (sz := s.heap.size) hD0
  have hA9 : ∀ q, s.heap.size ≤ q → wA ad G s.heap.size q := fun q h => Or.inr h
  generalize hAe : wA ad G s.heap.size = A at hD hA9 hZ ⊢
  have hS : va_S A s.heap s.heap [] := va_S.rf
  have hl := lv_entry ([.ref (ad a)]) (n := 5) (Nat.le_of_ble_eq_true rfl)
  rw [lg_entry_eq]
  generalize (lg_sl ([.ref (ad a)]) ++ List.replicate (5 - (lg_sl ([.ref (ad a)])).length) Slot.unset).toArray = ls at hl ⊢
  have hl : lv_has ls 5 [(0, .ref (ad a))] := hl
  unfold FX1_readSequence at hF
  refine lv_aload_n hx hb dX1_readSequence_0 rfl (lv_at hl 0 rfl) ?_
  refine va_get (D := D) (ci := 1) (v := va_re ad (M.2 a 9)) (C := RX1) (T := TX1) (N := 22) hx hb hts (mus hf_X1) hown hK hP a (wld_o ct ad G M hc hk (by decide)) rfl 9 (by decide) (hts (.fieldLink RX1 62 "VideoSuite$Decoder" "draft" "[I") (mu mw_651)) (fun _ h9 => h9) rfl dX1_readSequence_1 ?_
  refine lv_astoreq_n (lv' := [(1, va_re ad (M.2 a 9)), (0, .ref (ad a))]) hx hb dX1_readSequence_4 rfl hl (by decide) rfl (fun ls hl => ?_)
  refine lv_aloadq_n hx hb dX1_readSequence_5 rfl (lv_at hl 0 rfl) ?_
  refine lv_iconst (v := (0 : Int32)) hx hb dX1_readSequence_6 (by decide) ?_
  obtain ⟨y1, hy1, hF⟩ := bnd_some hF
  have hf9 := wA_in hD hA9 hS
  refine va_callv (va_runS (As := [va_re ad (M.2 a 9), .int (0 : Int32)]) (rest := []) ⟨hx, hb, hml, hown, hts⟩ (kJ7_fill_53178 l D ct ad Z G M s.heap.size ((M.2 a 9)) ((0 : Int32)) y1 hy1) (va_cwS 2 hts gX1_readSequence_J7_fill_53178 rfl rfl rfl (by decide +kernel) ⟨Nat.le_of_ble_eq_true rfl, Nat.le_of_ble_eq_true rfl⟩) ⟨fun a U g mk q => by obtain ⟨q0, q1, qP, qK, qD, qZ, qN⟩ := q; exact ⟨q0, q1, qP, va_K.moved (u := U) (U := U.calling g mk a) (Vm.Alike.refl U.vm) qK, qD, sF.moved (u := U) (U := U.calling g mk a) (Vm.Alike.refl U.vm) qZ, nF.same rfl qN⟩, fun U hU hW => ⟨rfl, by rw [hU], by rw [hU]; exact hP, va_K.moved hW.alike hK, hD.weaken (fun _ _ _ _ => trivial), by rw [hU]; exact ((hZ.kept hS.2.1).narrow hf9).moved hW.alike, hN.warm hW⟩⟩ rfl rfl hl.1 rfl (lv_room (Nat.le_of_ble_eq_true rfl)) dX1_readSequence_7 ⟨(Nat.zero_le _), (Nat.zero_le _)⟩) hS (fun q _ h => hf9 q h) hf9 (fun u t H locs ht hvm hw hB hz1 hk1 hS => ?_)
  obtain ⟨hP, hK9, hD9⟩ := hB
  rw [ht] at hP
  have hD := hD9.weaken (fun _ q _ h => hf9 q.1 h)
  refine lv_aload_n hx hb dX1_readSequence_10 rfl (lv_at hl 1 rfl) ?_
  refine va_get (D := D) (ci := 1) (v := va_re ad (y1.2 a 0)) (C := RX1) (T := TX1) (N := 22) hx hb hts (mus hf_X1) hown hK hP a (wld_o ct ad G y1 hc hk (by decide)) rfl 0 (by decide) (hts (.fieldLink RX1 12 "VideoSuite$Decoder" "reader" "LVideoSuite$Reader;") (mu mw_640)) (fun _ h9 => h9) rfl dX1_readSequence_11 ?_
  refine lv_iconst (v := (0 : Int32)) hx hb dX1_readSequence_14 (by decide) ?_
  refine lv_bipush (v := (8 : Int32)) hx hb dX1_readSequence_15 (by decide) ?_
  obtain ⟨b2, ho2, hc2, hk2, hF⟩ := dr_some hF
  refine W_st (st' := [.int (8 : Int32), .int (0 : Int32), .ref (ad b2)]) (by rw [va_some ho2]) ?_
  obtain ⟨y3, hy3, hF⟩ := bnd_some hF
  have hf9 := wA_in hD hA9 hS
  refine va_calli (va_runV (As := [.int (0 : Int32), .int (8 : Int32)]) (rest := []) ⟨hx, hb, hml, hown, hts⟩ (kX5_fixed l D ct ad Z G y1 H.size b2 ((0 : Int32)) ((8 : Int32)) y3 hc2 hk2 hy3) (cwV 2 hts gX1_readSequence_X5_fixed rfl rfl rfl (by decide +kernel) ⟨Nat.le_of_ble_eq_true rfl, Nat.le_of_ble_eq_true rfl⟩) ⟨fun a U g mk q => by obtain ⟨q0, q1, qP, qK, qD, qZ, qN⟩ := q; exact ⟨q0, q1, qP, va_K.moved (u := U) (U := U.calling g mk a) (Vm.Alike.refl U.vm) qK, qD, sF.moved (u := U) (U := U.calling g mk a) (Vm.Alike.refl U.vm) qZ, nF.same rfl qN⟩, va_recv hK hP (ci := 5) (q0 := b2) rfl (wld_o ct ad G y1 hc2 hk2 (by decide)), fun U hU hW => ⟨rfl, by rw [hU], by rw [hU]; exact hP, va_K.moved hW.alike hK, hD.weaken (fun _ _ _ _ => trivial), by rw [hU]; exact ((hZ.kept hS.2.1).narrow hf9).moved hW.alike, hN.warm hW⟩⟩ rfl rfl hl.1 rfl (lv_room (Nat.le_of_ble_eq_true rfl)) dX1_readSequence_17 ⟨(Nat.zero_le _), (Nat.zero_le _)⟩) hS (fun q _ h => hf9 q h) hf9 (fun r u t H locs ht hvm hw hB hz1 hk1 hS => ?_)
  obtain ⟨hP, hK9, hD9⟩ := hB
  rw [ht] at hP
  try dsimp only at hw
  subst hw
  have hD := hD9.weaken (fun _ q _ h => hf9 q.1 h)
  refine lv_pop hx hb dX1_readSequence_20 rfl ?_
  refine lv_aload_n hx hb dX1_readSequence_21 rfl (lv_at hl 1 rfl) ?_
  refine va_get (D := D) (ci := 1) (v := va_re ad (y3.1.2 a 0)) (C := RX1) (T := TX1) (N := 22) hx hb hts (mus hf_X1) hown hK hP a (wld_o ct ad G y3.1 hc hk (by decide)) rfl 0 (by decide) (hts (.fieldLink RX1 12 "VideoSuite$Decoder" "reader" "LVideoSuite$Reader;") (mu mw_640)) (fun _ h9 => h9) rfl dX1_readSequence_22 ?_
  refine lv_iconst (v := (0 : Int32)) hx hb dX1_readSequence_25 (by decide) ?_
  refine lv_bipush (v := (8 : Int32)) hx hb dX1_readSequence_26 (by decide) ?_
  obtain ⟨b4, ho4, hc4, hk4, hF⟩ := dr_some hF
  refine W_st (st' := [.int (8 : Int32), .int (0 : Int32), .ref (ad b4)]) (by rw [va_some ho4]) ?_
  obtain ⟨y5, hy5, hF⟩ := bnd_some hF
  have hf9 := wA_in hD hA9 hS
  refine va_calli (va_runV (As := [.int (0 : Int32), .int (8 : Int32)]) (rest := []) ⟨hx, hb, hml, hown, hts⟩ (kX5_fixed l D ct ad Z G y3.1 H.size b4 ((0 : Int32)) ((8 : Int32)) y5 hc4 hk4 hy5) (cwV 2 hts gX1_readSequence_X5_fixed rfl rfl rfl (by decide +kernel) ⟨Nat.le_of_ble_eq_true rfl, Nat.le_of_ble_eq_true rfl⟩) ⟨fun a U g mk q => by obtain ⟨q0, q1, qP, qK, qD, qZ, qN⟩ := q; exact ⟨q0, q1, qP, va_K.moved (u := U) (U := U.calling g mk a) (Vm.Alike.refl U.vm) qK, qD, sF.moved (u := U) (U := U.calling g mk a) (Vm.Alike.refl U.vm) qZ, nF.same rfl qN⟩, va_recv hK hP (ci := 5) (q0 := b4) rfl (wld_o ct ad G y3.1 hc4 hk4 (by decide)), fun U hU hW => ⟨rfl, by rw [hU], by rw [hU]; exact hP, va_K.moved hW.alike hK, hD.weaken (fun _ _ _ _ => trivial), by rw [hU]; exact ((hZ.kept hS.2.1).narrow hf9).moved hW.alike, hN.warm hW⟩⟩ rfl rfl hl.1 rfl (lv_room (Nat.le_of_ble_eq_true rfl)) dX1_readSequence_28 ⟨(Nat.zero_le _), (Nat.zero_le _)⟩) hS (fun q _ h => hf9 q h) hf9 (fun r u t H locs ht hvm hw hB hz1 hk1 hS => ?_)
  obtain ⟨hP, hK9, hD9⟩ := hB
  rw [ht] at hP
  try dsimp only at hw
  subst hw
  have hD := hD9.weaken (fun _ q _ h => hf9 q.1 h)
  refine lv_pop hx hb dX1_readSequence_31 rfl ?_
  refine lv_aload_n hx hb dX1_readSequence_32 rfl (lv_at hl 1 rfl) ?_
  refine va_get (D := D) (ci := 1) (v := va_re ad (y5.1.2 a 0)) (C := RX1) (T := TX1) (N := 22) hx hb hts (mus hf_X1) hown hK hP a (wld_o ct ad G y5.1 hc hk (by decide)) rfl 0 (by decide) (hts (.fieldLink RX1 12 "VideoSuite$Decoder" "reader" "LVideoSuite$Reader;") (mu mw_640)) (fun _ h9 => h9) rfl dX1_readSequence_33 ?_
  refine lv_iconst (v := (0 : Int32)) hx hb dX1_readSequence_36 (by decide) ?_
  refine lv_bipush (v := (8 : Int32)) hx hb dX1_readSequence_37 (by decide) ?_
  obtain ⟨b6, ho6, hc6, hk6, hF⟩ := dr_some hF
  refine W_st (st' := [.int (8 : Int32), .int (0 : Int32), .ref (ad b6)]) (by rw [va_some ho6]) ?_
  obtain ⟨y7, hy7, hF⟩ := bnd_some hF
  have hf9 := wA_in hD hA9 hS
  refine va_calli (va_runV (As := [.int (0 : Int32), .int (8 : Int32)]) (rest := []) ⟨hx, hb, hml, hown, hts⟩ (kX5_fixed l D ct ad Z G y5.1 H.size b6 ((0 : Int32)) ((8 : Int32)) y7 hc6 hk6 hy7) (cwV 2 hts gX1_readSequence_X5_fixed rfl rfl rfl (by decide +kernel) ⟨Nat.le_of_ble_eq_true rfl, Nat.le_of_ble_eq_true rfl⟩) ⟨fun a U g mk q => by obtain ⟨q0, q1, qP, qK, qD, qZ, qN⟩ := q; exact ⟨q0, q1, qP, va_K.moved (u := U) (U := U.calling g mk a) (Vm.Alike.refl U.vm) qK, qD, sF.moved (u := U) (U := U.calling g mk a) (Vm.Alike.refl U.vm) qZ, nF.same rfl qN⟩, va_recv hK hP (ci := 5) (q0 := b6) rfl (wld_o ct ad G y5.1 hc6 hk6 (by decide)), fun U hU hW => ⟨rfl, by rw [hU], by rw [hU]; exact hP, va_K.moved hW.alike hK, hD.weaken (fun _ _ _ _ => trivial), by rw [hU]; exact ((hZ.kept hS.2.1).narrow hf9).moved hW.alike, hN.warm hW⟩⟩ rfl rfl hl.1 rfl (lv_room (Nat.le_of_ble_eq_true rfl)) dX1_readSequence_39 ⟨(Nat.zero_le _), (Nat.zero_le _)⟩) hS (fun q _ h => hf9 q h) hf9 (fun r u t H locs ht hvm hw hB hz1 hk1 hS => ?_)
  obtain ⟨hP, hK9, hD9⟩ := hB
  rw [ht] at hP
  try dsimp only at hw
  subst hw
  have hD := hD9.weaken (fun _ q _ h => hf9 q.1 h)
  refine lv_pop hx hb dX1_readSequence_42 rfl ?_
  refine lv_aload_n hx hb dX1_readSequence_43 rfl (lv_at hl 1 rfl) ?_
  refine lv_iconst (v := (3 : Int32)) hx hb dX1_readSequence_44 (by decide) ?_
  obtain ⟨y8, hy8, hF⟩ := bnd_some hF
  have hf9 := wA_in hD hA9 hS
  refine va_calli (va_runV (As := [.int (3 : Int32)]) (rest := []) ⟨hx, hb, hml, hown, hts⟩ (kX1_unsigned l D ct ad Z G y7.1 H.size a ((3 : Int32)) y8 hc hk hy8) (cwV 1 hts gX1_readSequence_X1_unsigned rfl rfl rfl (by decide +kernel) ⟨Nat.le_of_ble_eq_true rfl, Nat.le_of_ble_eq_true rfl⟩) ⟨fun a U g mk q => by obtain ⟨q0, q1, qP, qK, qD, qZ, qN⟩ := q; exact ⟨q0, q1, qP, va_K.moved (u := U) (U := U.calling g mk a) (Vm.Alike.refl U.vm) qK, qD, sF.moved (u := U) (U := U.calling g mk a) (Vm.Alike.refl U.vm) qZ, nF.same rfl qN⟩, va_recv hK hP (ci := 1) (q0 := a) rfl (wld_o ct ad G y7.1 hc hk (by decide)), fun U hU hW => ⟨rfl, by rw [hU], by rw [hU]; exact hP, va_K.moved hW.alike hK, hD.weaken (fun _ _ _ _ => trivial), by rw [hU]; exact ((hZ.kept hS.2.1).narrow hf9).moved hW.alike, hN.warm hW⟩⟩ rfl rfl hl.1 rfl (lv_room (Nat.le_of_ble_eq_true rfl)) dX1_readSequence_45 ⟨(Nat.zero_le _), (Nat.zero_le _)⟩) hS (fun q _ h => hf9 q h) hf9 (fun r u t H locs ht hvm hw hB hz1 hk1 hS => ?_)
  obtain ⟨hP, hK9, hD9⟩ := hB
  rw [ht] at hP
  try dsimp only at hw
  subst hw
  have hD := hD9.weaken (fun _ q _ h => hf9 q.1 h)
  refine lv_istore_n (lv' := [(2, .int y8.2), (1, va_re ad (M.2 a 9)), (0, .ref (ad a))]) hx hb dX1_readSequence_48 rfl hl (by decide) (by generalize ((M.2 a 9)) = o9; cases o9 <;> rfl) (fun ls hl => ?_)
  refine lv_aloadq_n hx hb dX1_readSequence_49 rfl (lv_at hl 1 rfl) ?_
  refine lv_iconst (v := (2 : Int32)) hx hb dX1_readSequence_50 (by decide) ?_
  refine lv_aload_n hx hb dX1_readSequence_51 rfl (lv_at hl 2 rfl) ?_
  refine lv_bipush (v := (12 : Int32)) hx hb dX1_readSequence_52 (by decide) ?_
  obtain ⟨y9, hy9, hF⟩ := bnd_some hF
  have hf9 := wA_in hD hA9 hS
  refine va_calli (va_runV (As := [.int (12 : Int32)]) (rest := [.int (2 : Int32), va_re ad (M.2 a 9)]) ⟨hx, hb, hml, hown, hts⟩ (kX1_unsigned l D ct ad Z G y8.1 H.size a ((12 : Int32)) y9 hc hk hy9) (cwV 1 hts gX1_readSequence_X1_unsigned rfl rfl rfl (by decide +kernel) ⟨Nat.le_of_ble_eq_true rfl, Nat.le_of_ble_eq_true rfl⟩) ⟨fun a U g mk q => by obtain ⟨q0, q1, qP, qK, qD, qZ, qN⟩ := q; exact ⟨q0, q1, qP, va_K.moved (u := U) (U := U.calling g mk a) (Vm.Alike.refl U.vm) qK, qD, sF.moved (u := U) (U := U.calling g mk a) (Vm.Alike.refl U.vm) qZ, nF.same rfl qN⟩, va_recv hK hP (ci := 1) (q0 := a) rfl (wld_o ct ad G y8.1 hc hk (by decide)), fun U hU hW => ⟨rfl, by rw [hU], by rw [hU]; exact hP, va_K.moved hW.alike hK, hD.weaken (fun _ _ _ _ => trivial), by rw [hU]; exact ((hZ.kept hS.2.1).narrow hf9).moved hW.alike, hN.warm hW⟩⟩ rfl rfl hl.1 rfl (lv_room (by simp only [List.map, va_re_cat]; exact Nat.le_of_ble_eq_true rfl)) dX1_readSequence_54 ⟨(Nat.zero_le _), (Nat.zero_le _)⟩) hS (fun q _ h => hf9 q h) hf9 (fun r u t H locs ht hvm hw hB hz1 hk1 hS => ?_)
  obtain ⟨hP, hK9, hD9⟩ := hB
  rw [ht] at hP
  try dsimp only at hw
  subst hw
  have hD := hD9.weaken (fun _ q _ h => hf9 q.1 h)
  refine lv_iconst (v := (4 : Int32)) hx hb dX1_readSequence_57 (by decide) ?_
  refine lv_iadd hx hb dX1_readSequence_58 ?_
  obtain ⟨x10, ex10, hF⟩ := ltt_some hF
  refine lv_topi (fun zx10 ezx10 => ?_)
  obtain rfl : x10 = zx10 := ex10.trans ezx10.symm
  obtain ⟨b11, ho11, hc11, hk11, hF⟩ := dr_some hF
  refine W_st (st' := [.int x10, .int (2 : Int32), .ref (ad b11)]) (by rw [va_some ho11]) ?_
  obtain ⟨hvc, hF⟩ := chk_some hF
  refine va_iast hx hb hK hP hD hS b11 1 (wld_i ct ad G y9.1 hc11 hk11) rfl hvc dX1_readSequence_59 (fun H locs hP hD hS => ?_)
  obtain ⟨M12, eM12, hF⟩ := ltt_some hF
  rw [set_i ct ad G y9.1 hc11 hk11, ← eM12] at hP hD
  refine lv_aloadq_n hx hb dX1_readSequence_60 rfl (lv_at hl 1 rfl) ?_
  refine lv_iconst (v := (3 : Int32)) hx hb dX1_readSequence_61 (by decide) ?_
  refine lv_aload_n hx hb dX1_readSequence_62 rfl (lv_at hl 2 rfl) ?_
  refine lv_iconst (v := (2 : Int32)) hx hb dX1_readSequence_63 (by decide) ?_
  obtain ⟨y13, hy13, hF⟩ := bnd_some hF
  have hf9 := wA_in hD hA9 hS
  refine va_calli (va_runV (As := [.int (2 : Int32)]) (rest := [.int (3 : Int32), va_re ad (M.2 a 9)]) ⟨hx, hb, hml, hown, hts⟩ (kX1_unsigned l D ct ad Z G M12 H.size a ((2 : Int32)) y13 hc hk hy13) (cwV 1 hts gX1_readSequence_X1_unsigned rfl rfl rfl (by decide +kernel) ⟨Nat.le_of_ble_eq_true rfl, Nat.le_of_ble_eq_true rfl⟩) ⟨fun a U g mk q => by obtain ⟨q0, q1, qP, qK, qD, qZ, qN⟩ := q; exact ⟨q0, q1, qP, va_K.moved (u := U) (U := U.calling g mk a) (Vm.Alike.refl U.vm) qK, qD, sF.moved (u := U) (U := U.calling g mk a) (Vm.Alike.refl U.vm) qZ, nF.same rfl qN⟩, va_recv hK hP (ci := 1) (q0 := a) rfl (wld_o ct ad G M12 hc hk (by decide)), fun U hU hW => ⟨rfl, by rw [hU], by rw [hU]; exact hP, va_K.moved hW.alike hK, hD.weaken (fun _ _ _ _ => trivial), by rw [hU]; exact ((hZ.kept hS.2.1).narrow hf9).moved hW.alike, hN.warm hW⟩⟩ rfl rfl hl.1 rfl (lv_room (by simp only [List.map, va_re_cat]; exact Nat.le_of_ble_eq_true rfl)) dX1_readSequence_64 ⟨(Nat.zero_le _), (Nat.zero_le _)⟩) hS (fun q _ h => hf9 q h) hf9 (fun r u t H locs ht hvm hw hB hz1 hk1 hS => ?_)
  obtain ⟨hP, hK9, hD9⟩ := hB
  rw [ht] at hP
  try dsimp only at hw
  subst hw
  have hD := hD9.weaken (fun _ q _ h => hf9 q.1 h)
  refine W_st (st' := [.int y13.2, .int (3 : Int32), .ref (ad b11)]) (by rw [va_some ho11]) ?_
  obtain ⟨hvc, hF⟩ := chk_some hF
  refine va_iast hx hb hK hP hD hS b11 1 (wld_i ct ad G y13.1 hc11 hk11) rfl hvc dX1_readSequence_67 (fun H locs hP hD hS => ?_)
  obtain ⟨M14, eM14, hF⟩ := ltt_some hF
  rw [set_i ct ad G y13.1 hc11 hk11, ← eM14] at hP hD
  refine lv_aloadq_n hx hb dX1_readSequence_68 rfl (lv_at hl 1 rfl) ?_
  refine lv_iconst (v := (3 : Int32)) hx hb dX1_readSequence_69 (by decide) ?_
  refine W_st (st' := [.int (3 : Int32), .ref (ad b11)]) (by rw [va_some ho11]) ?_
  obtain ⟨hvc, hF⟩ := chk_some hF
  refine va_iald hx hb hK hP b11 1 (wld_i ct ad G M14 hc11 hk11) rfl hvc dX1_readSequence_70 ?_
  obtain ⟨x15, ex15, hF⟩ := ltt_some hF
  refine lv_topi (fun zx15 ezx15 => ?_)
  obtain rfl : x15 = zx15 := ex15.trans ezx15.symm
  obtain ⟨y16, hy16, hF⟩ := bnd_some hF
  have J16 : ∀ (H : Heap) (locs : List Loc) (ls : Array Slot), va_P D classes (wld ct ad G y16) H → va_D A (wld ct ad G y16) → va_S A s.heap H locs → lv_has ls 5 [(2, .int y8.2), (1, va_re ad (M.2 a 9)), (0, .ref (ad a))] → W p l e (headSpec wuX1_readSequence ({ frames := 4, cells := 0, slots := 0, locals := 103 })).room s m ([.ref (ad a)] : List Value).toArray below meth c H locs 0 0 (MQ below (va_Qv (fun (_ : Unit) => True) (fun _ t => kE D ct ad G A y t) A) ([.ref (ad a)] : List Value).toArray s 0 0 A) (F0 m 100 ls []) := by
    intro H locs ls hP hD hS hl
    refine lv_aloadq_n hx hb dX1_readSequence_100 rfl (lv_at hl 1 rfl) ?_
    refine lv_iconst (v := (5 : Int32)) hx hb dX1_readSequence_101 (by decide) ?_
    refine lv_aload_n hx hb dX1_readSequence_102 rfl (lv_at hl 2 rfl) ?_
    refine lv_iconst (v := (4 : Int32)) hx hb dX1_readSequence_103 (by decide) ?_
    obtain ⟨y17, hy17, hF⟩ := bnd_some hF
    have hf9 := wA_in hD hA9 hS
    refine va_calli (va_runV (As := [.int (4 : Int32)]) (rest := [.int (5 : Int32), va_re ad (M.2 a 9)]) ⟨hx, hb, hml, hown, hts⟩ (kX1_unsigned l D ct ad Z G y16 H.size a ((4 : Int32)) y17 hc hk hy17) (cwV 1 hts gX1_readSequence_X1_unsigned rfl rfl rfl (by decide +kernel) ⟨Nat.le_of_ble_eq_true rfl, Nat.le_of_ble_eq_true rfl⟩) ⟨fun a U g mk q => by obtain ⟨q0, q1, qP, qK, qD, qZ, qN⟩ := q; exact ⟨q0, q1, qP, va_K.moved (u := U) (U := U.calling g mk a) (Vm.Alike.refl U.vm) qK, qD, sF.moved (u := U) (U := U.calling g mk a) (Vm.Alike.refl U.vm) qZ, nF.same rfl qN⟩, va_recv hK hP (ci := 1) (q0 := a) rfl (wld_o ct ad G y16 hc hk (by decide)), fun U hU hW => ⟨rfl, by rw [hU], by rw [hU]; exact hP, va_K.moved hW.alike hK, hD.weaken (fun _ _ _ _ => trivial), by rw [hU]; exact ((hZ.kept hS.2.1).narrow hf9).moved hW.alike, hN.warm hW⟩⟩ rfl rfl hl.1 rfl (lv_room (by simp only [List.map, va_re_cat]; exact Nat.le_of_ble_eq_true rfl)) dX1_readSequence_104 ⟨(Nat.zero_le _), (Nat.zero_le _)⟩) hS (fun q _ h => hf9 q h) hf9 (fun r u t H locs ht hvm hw hB hz1 hk1 hS => ?_)
    obtain ⟨hP, hK9, hD9⟩ := hB
    rw [ht] at hP
    try dsimp only at hw
    subst hw
    have hD := hD9.weaken (fun _ q _ h => hf9 q.1 h)
    refine W_st (st' := [.int y17.2, .int (5 : Int32), .ref (ad b11)]) (by rw [va_some ho11]) ?_
    obtain ⟨hvc, hF⟩ := chk_some hF
    refine va_iast hx hb hK hP hD hS b11 1 (wld_i ct ad G y17.1 hc11 hk11) rfl hvc dX1_readSequence_107 (fun H locs hP hD hS => ?_)
    obtain ⟨M18, eM18, hF⟩ := ltt_some hF
    rw [set_i ct ad G y17.1 hc11 hk11, ← eM18] at hP hD
    refine lv_aloadq_n hx hb dX1_readSequence_108 rfl (lv_at hl 1 rfl) ?_
    refine lv_bipush (v := (6 : Int32)) hx hb dX1_readSequence_109 (by decide) ?_
    refine lv_aload_n hx hb dX1_readSequence_111 rfl (lv_at hl 2 rfl) ?_
    refine va_get (D := D) (ci := 1) (v := va_re ad (M18.2 a 0)) (C := RX1) (T := TX1) (N := 22) hx hb hts (mus hf_X1) hown hK hP a (wld_o ct ad G M18 hc hk (by decide)) rfl 0 (by decide) (hts (.fieldLink RX1 12 "VideoSuite$Decoder" "reader" "LVideoSuite$Reader;") (mu mw_640)) (fun _ h9 => h9) rfl dX1_readSequence_112 ?_
    refine lv_iconst (v := (0 : Int32)) hx hb dX1_readSequence_115 (by decide) ?_
    refine lv_iconst (v := (1 : Int32)) hx hb dX1_readSequence_116 (by decide) ?_
    obtain ⟨b19, ho19, hc19, hk19, hF⟩ := dr_some hF
    refine W_st (st' := [.int (1 : Int32), .int (0 : Int32), .ref (ad b19), .int (6 : Int32), va_re ad (M.2 a 9)]) (by rw [va_some ho19]) ?_
    obtain ⟨y20, hy20, hF⟩ := bnd_some hF
    have hf9 := wA_in hD hA9 hS
    refine va_calli (va_runV (As := [.int (0 : Int32), .int (1 : Int32)]) (rest := [.int (6 : Int32), va_re ad (M.2 a 9)]) ⟨hx, hb, hml, hown, hts⟩ (kX5_fixed l D ct ad Z G M18 H.size b19 ((0 : Int32)) ((1 : Int32)) y20 hc19 hk19 hy20) (cwV 2 hts gX1_readSequence_X5_fixed rfl rfl rfl (by decide +kernel) ⟨Nat.le_of_ble_eq_true rfl, Nat.le_of_ble_eq_true rfl⟩) ⟨fun a U g mk q => by obtain ⟨q0, q1, qP, qK, qD, qZ, qN⟩ := q; exact ⟨q0, q1, qP, va_K.moved (u := U) (U := U.calling g mk a) (Vm.Alike.refl U.vm) qK, qD, sF.moved (u := U) (U := U.calling g mk a) (Vm.Alike.refl U.vm) qZ, nF.same rfl qN⟩, va_recv hK hP (ci := 5) (q0 := b19) rfl (wld_o ct ad G M18 hc19 hk19 (by decide)), fun U hU hW => ⟨rfl, by rw [hU], by rw [hU]; exact hP, va_K.moved hW.alike hK, hD.weaken (fun _ _ _ _ => trivial), by rw [hU]; exact ((hZ.kept hS.2.1).narrow hf9).moved hW.alike, hN.warm hW⟩⟩ rfl rfl hl.1 rfl (lv_room (by simp only [List.map, va_re_cat]; exact Nat.le_of_ble_eq_true rfl)) dX1_readSequence_117 ⟨(Nat.zero_le _), (Nat.zero_le _)⟩) hS (fun q _ h => hf9 q h) hf9 (fun r u t H locs ht hvm hw hB hz1 hk1 hS => ?_)
    obtain ⟨hP, hK9, hD9⟩ := hB
    rw [ht] at hP
    try dsimp only at hw
    subst hw
    have hD := hD9.weaken (fun _ q _ h => hf9 q.1 h)
    refine W_st (st' := [.int y20.2, .int (6 : Int32), .ref (ad b11)]) (by rw [va_some ho11]) ?_
    obtain ⟨hvc, hF⟩ := chk_some hF
    refine va_iast hx hb hK hP hD hS b11 1 (wld_i ct ad G y20.1 hc11 hk11) rfl hvc dX1_readSequence_120 (fun H locs hP hD hS => ?_)
    obtain ⟨M21, eM21, hF⟩ := ltt_some hF
    rw [set_i ct ad G y20.1 hc11 hk11, ← eM21] at hP hD
    refine lv_aloadq_n hx hb dX1_readSequence_121 rfl (lv_at hl 1 rfl) ?_
    refine lv_iconst (v := (0 : Int32)) hx hb dX1_readSequence_122 (by decide) ?_
    refine lv_aload_n hx hb dX1_readSequence_123 rfl (lv_at hl 2 rfl) ?_
    refine lv_bipush (v := (7 : Int32)) hx hb dX1_readSequence_124 (by decide) ?_
    obtain ⟨y22, hy22, hF⟩ := bnd_some hF
    have hf9 := wA_in hD hA9 hS
    refine va_calli (va_runV (As := [.int (7 : Int32)]) (rest := [.int (0 : Int32), va_re ad (M.2 a 9)]) ⟨hx, hb, hml, hown, hts⟩ (kX1_unsigned l D ct ad Z G M21 H.size a ((7 : Int32)) y22 hc hk hy22) (cwV 1 hts gX1_readSequence_X1_unsigned rfl rfl rfl (by decide +kernel) ⟨Nat.le_of_ble_eq_true rfl, Nat.le_of_ble_eq_true rfl⟩) ⟨fun a U g mk q => by obtain ⟨q0, q1, qP, qK, qD, qZ, qN⟩ := q; exact ⟨q0, q1, qP, va_K.moved (u := U) (U := U.calling g mk a) (Vm.Alike.refl U.vm) qK, qD, sF.moved (u := U) (U := U.calling g mk a) (Vm.Alike.refl U.vm) qZ, nF.same rfl qN⟩, va_recv hK hP (ci := 1) (q0 := a) rfl (wld_o ct ad G M21 hc hk (by decide)), fun U hU hW => ⟨rfl, by rw [hU], by rw [hU]; exact hP, va_K.moved hW.alike hK, hD.weaken (fun _ _ _ _ => trivial), by rw [hU]; exact ((hZ.kept hS.2.1).narrow hf9).moved hW.alike, hN.warm hW⟩⟩ rfl rfl hl.1 rfl (lv_room (by simp only [List.map, va_re_cat]; exact Nat.le_of_ble_eq_true rfl)) dX1_readSequence_126 ⟨(Nat.zero_le _), (Nat.zero_le _)⟩) hS (fun q _ h => hf9 q h) hf9 (fun r u t H locs ht hvm hw hB hz1 hk1 hS => ?_)
    obtain ⟨hP, hK9, hD9⟩ := hB
    rw [ht] at hP
    try dsimp only at hw
    subst hw
    have hD := hD9.weaken (fun _ q _ h => hf9 q.1 h)
    refine lv_iconst (v := (1 : Int32)) hx hb dX1_readSequence_129 (by decide) ?_
    refine lv_iadd hx hb dX1_readSequence_130 ?_
    obtain ⟨x23, ex23, hF⟩ := ltt_some hF
    refine lv_topi (fun zx23 ezx23 => ?_)
    obtain rfl : x23 = zx23 := ex23.trans ezx23.symm
    refine W_st (st' := [.int x23, .int (0 : Int32), .ref (ad b11)]) (by rw [va_some ho11]) ?_
    obtain ⟨hvc, hF⟩ := chk_some hF
    refine va_iast hx hb hK hP hD hS b11 1 (wld_i ct ad G y22.1 hc11 hk11) rfl hvc dX1_readSequence_131 (fun H locs hP hD hS => ?_)
    obtain ⟨M24, eM24, hF⟩ := ltt_some hF
    rw [set_i ct ad G y22.1 hc11 hk11, ← eM24] at hP hD
    refine lv_aloadq_n hx hb dX1_readSequence_132 rfl (lv_at hl 1 rfl) ?_
    refine lv_iconst (v := (1 : Int32)) hx hb dX1_readSequence_133 (by decide) ?_
    refine lv_aload_n hx hb dX1_readSequence_134 rfl (lv_at hl 2 rfl) ?_
    refine lv_bipush (v := (7 : Int32)) hx hb dX1_readSequence_135 (by decide) ?_
    obtain ⟨y25, hy25, hF⟩ := bnd_some hF
    have hf9 := wA_in hD hA9 hS
    refine va_calli (va_runV (As := [.int (7 : Int32)]) (rest := [.int (1 : Int32), va_re ad (M.2 a 9)]) ⟨hx, hb, hml, hown, hts⟩ (kX1_unsigned l D ct ad Z G M24 H.size a ((7 : Int32)) y25 hc hk hy25) (cwV 1 hts gX1_readSequence_X1_unsigned rfl rfl rfl (by decide +kernel) ⟨Nat.le_of_ble_eq_true rfl, Nat.le_of_ble_eq_true rfl⟩) ⟨fun a U g mk q => by obtain ⟨q0, q1, qP, qK, qD, qZ, qN⟩ := q; exact ⟨q0, q1, qP, va_K.moved (u := U) (U := U.calling g mk a) (Vm.Alike.refl U.vm) qK, qD, sF.moved (u := U) (U := U.calling g mk a) (Vm.Alike.refl U.vm) qZ, nF.same rfl qN⟩, va_recv hK hP (ci := 1) (q0 := a) rfl (wld_o ct ad G M24 hc hk (by decide)), fun U hU hW => ⟨rfl, by rw [hU], by rw [hU]; exact hP, va_K.moved hW.alike hK, hD.weaken (fun _ _ _ _ => trivial), by rw [hU]; exact ((hZ.kept hS.2.1).narrow hf9).moved hW.alike, hN.warm hW⟩⟩ rfl rfl hl.1 rfl (lv_room (by simp only [List.map, va_re_cat]; exact Nat.le_of_ble_eq_true rfl)) dX1_readSequence_137 ⟨(Nat.zero_le _), (Nat.zero_le _)⟩) hS (fun q _ h => hf9 q h) hf9 (fun r u t H locs ht hvm hw hB hz1 hk1 hS => ?_)
    obtain ⟨hP, hK9, hD9⟩ := hB
    rw [ht] at hP
    try dsimp only at hw
    subst hw
    have hD := hD9.weaken (fun _ q _ h => hf9 q.1 h)
    refine lv_iconst (v := (1 : Int32)) hx hb dX1_readSequence_140 (by decide) ?_
    refine lv_iadd hx hb dX1_readSequence_141 ?_
    obtain ⟨x26, ex26, hF⟩ := ltt_some hF
    refine lv_topi (fun zx26 ezx26 => ?_)
    obtain rfl : x26 = zx26 := ex26.trans ezx26.symm
    refine W_st (st' := [.int x26, .int (1 : Int32), .ref (ad b11)]) (by rw [va_some ho11]) ?_
    obtain ⟨hvc, hF⟩ := chk_some hF
    refine va_iast hx hb hK hP hD hS b11 1 (wld_i ct ad G y25.1 hc11 hk11) rfl hvc dX1_readSequence_142 (fun H locs hP hD hS => ?_)
    obtain ⟨M27, eM27, hF⟩ := ltt_some hF
    rw [set_i ct ad G y25.1 hc11 hk11, ← eM27] at hP hD
    refine lv_aloadq_n hx hb dX1_readSequence_143 rfl (lv_at hl 1 rfl) ?_
    refine lv_iconst (v := (0 : Int32)) hx hb dX1_readSequence_144 (by decide) ?_
    refine W_st (st' := [.int (0 : Int32), .ref (ad b11)]) (by rw [va_some ho11]) ?_
    obtain ⟨hvc, hF⟩ := chk_some hF
    refine va_iald hx hb hK hP b11 1 (wld_i ct ad G M27 hc11 hk11) rfl hvc dX1_readSequence_145 ?_
    obtain ⟨x28, ex28, hF⟩ := ltt_some hF
    refine lv_topi (fun zx28 ezx28 => ?_)
    obtain rfl : x28 = zx28 := ex28.trans ezx28.symm
    refine lv_aloadq_n hx hb dX1_readSequence_146 rfl (lv_at hl 1 rfl) ?_
    refine lv_iconst (v := (1 : Int32)) hx hb dX1_readSequence_147 (by decide) ?_
    refine W_st (st' := [.int (1 : Int32), .ref (ad b11), .int x28]) (by rw [va_some ho11]) ?_
    obtain ⟨hvc, hF⟩ := chk_some hF
    refine va_iald hx hb hK hP b11 1 (wld_i ct ad G M27 hc11 hk11) rfl hvc dX1_readSequence_148 ?_
    obtain ⟨x29, ex29, hF⟩ := ltt_some hF
    refine lv_topi (fun zx29 ezx29 => ?_)
    obtain rfl : x29 = zx29 := ex29.trans ezx29.symm
    refine lv_imul hx hb dX1_readSequence_149 ?_
    obtain ⟨x30, ex30, hF⟩ := ltt_some hF
    refine lv_topi (fun zx30 ezx30 => ?_)
    obtain rfl : x30 = zx30 := ex30.trans ezx30.symm
    refine lv_bipush (v := (32 : Int32)) hx hb dX1_readSequence_150 (by decide) ?_
    obtain ⟨y31, hy31, hF⟩ := bnd_some hF
    have J31 : ∀ (H : Heap) (locs : List Loc) (ls : Array Slot), va_P D classes (wld ct ad G y31) H → va_D A (wld ct ad G y31) → va_S A s.heap H locs → lv_has ls 5 [(2, .int y8.2), (1, va_re ad (M.2 a 9)), (0, .ref (ad a))] → W p l e (headSpec wuX1_readSequence ({ frames := 4, cells := 0, slots := 0, locals := 103 })).room s m ([.ref (ad a)] : List Value).toArray below meth c H locs 0 0 (MQ below (va_Qv (fun (_ : Unit) => True) (fun _ t => kE D ct ad G A y t) A) ([.ref (ad a)] : List Value).toArray s 0 0 A) (F0 m 170 ls []) := by
      intro H locs ls hP hD hS hl
      refine lv_aload_n hx hb dX1_readSequence_170 rfl (lv_at hl 2 rfl) ?_
      refine va_get (D := D) (ci := 1) (v := va_re ad (y31.2 a 0)) (C := RX1) (T := TX1) (N := 22) hx hb hts (mus hf_X1) hown hK hP a (wld_o ct ad G y31 hc hk (by decide)) rfl 0 (by decide) (hts (.fieldLink RX1 12 "VideoSuite$Decoder" "reader" "LVideoSuite$Reader;") (mu mw_640)) (fun _ h9 => h9) rfl dX1_readSequence_171 ?_
      refine lv_iconst (v := (1 : Int32)) hx hb dX1_readSequence_174 (by decide) ?_
      obtain ⟨b32, ho32, hc32, hk32, hF⟩ := dr_some hF
      refine W_st (st' := [.int (1 : Int32), .ref (ad b32)]) (by rw [va_some ho32]) ?_
      obtain ⟨y33, hy33, hF⟩ := bnd_some hF
      have hf9 := wA_in hD hA9 hS
      refine va_callv (va_runV (As := [.int (1 : Int32)]) (rest := []) ⟨hx, hb, hml, hown, hts⟩ (kX5_expect l D ct ad Z G y31 H.size b32 ((1 : Int32)) y33 hc32 hk32 hy33) (cwV 1 hts gX1_readSequence_X5_expect rfl rfl rfl (by decide +kernel) ⟨Nat.le_of_ble_eq_true rfl, Nat.le_of_ble_eq_true rfl⟩) ⟨fun a U g mk q => by obtain ⟨q0, q1, qP, qK, qD, qZ, qN⟩ := q; exact ⟨q0, q1, qP, va_K.moved (u := U) (U := U.calling g mk a) (Vm.Alike.refl U.vm) qK, qD, sF.moved (u := U) (U := U.calling g mk a) (Vm.Alike.refl U.vm) qZ, nF.same rfl qN⟩, va_recv hK hP (ci := 5) (q0 := b32) rfl (wld_o ct ad G y31 hc32 hk32 (by decide)), fun U hU hW => ⟨rfl, by rw [hU], by rw [hU]; exact hP, va_K.moved hW.alike hK, hD.weaken (fun _ _ _ _ => trivial), by rw [hU]; exact ((hZ.kept hS.2.1).narrow hf9).moved hW.alike, hN.warm hW⟩⟩ rfl rfl hl.1 rfl (lv_room (Nat.le_of_ble_eq_true rfl)) dX1_readSequence_175 ⟨(Nat.zero_le _), (Nat.zero_le _)⟩) hS (fun q _ h => hf9 q h) hf9 (fun u t H locs ht hvm hw hB hz1 hk1 hS => ?_)
      obtain ⟨hP, hK9, hD9⟩ := hB
      rw [ht] at hP
      have hD := hD9.weaken (fun _ q _ h => hf9 q.1 h)
      refine lv_aload_n hx hb dX1_readSequence_178 rfl (lv_at hl 2 rfl) ?_
      refine va_get (D := D) (ci := 1) (v := va_re ad (y33.2 a 0)) (C := RX1) (T := TX1) (N := 22) hx hb hts (mus hf_X1) hown hK hP a (wld_o ct ad G y33 hc hk (by decide)) rfl 0 (by decide) (hts (.fieldLink RX1 12 "VideoSuite$Decoder" "reader" "LVideoSuite$Reader;") (mu mw_640)) (fun _ h9 => h9) rfl dX1_readSequence_179 ?_
      refine lv_iconst (v := (1 : Int32)) hx hb dX1_readSequence_182 (by decide) ?_
      obtain ⟨b34, ho34, hc34, hk34, hF⟩ := dr_some hF
      refine W_st (st' := [.int (1 : Int32), .ref (ad b34)]) (by rw [va_some ho34]) ?_
      obtain ⟨y35, hy35, hF⟩ := bnd_some hF
      have hf9 := wA_in hD hA9 hS
      refine va_callv (va_runV (As := [.int (1 : Int32)]) (rest := []) ⟨hx, hb, hml, hown, hts⟩ (kX5_expect l D ct ad Z G y33 H.size b34 ((1 : Int32)) y35 hc34 hk34 hy35) (cwV 1 hts gX1_readSequence_X5_expect rfl rfl rfl (by decide +kernel) ⟨Nat.le_of_ble_eq_true rfl, Nat.le_of_ble_eq_true rfl⟩) ⟨fun a U g mk q => by obtain ⟨q0, q1, qP, qK, qD, qZ, qN⟩ := q; exact ⟨q0, q1, qP, va_K.moved (u := U) (U := U.calling g mk a) (Vm.Alike.refl U.vm) qK, qD, sF.moved (u := U) (U := U.calling g mk a) (Vm.Alike.refl U.vm) qZ, nF.same rfl qN⟩, va_recv hK hP (ci := 5) (q0 := b34) rfl (wld_o ct ad G y33 hc34 hk34 (by decide)), fun U hU hW => ⟨rfl, by rw [hU], by rw [hU]; exact hP, va_K.moved hW.alike hK, hD.weaken (fun _ _ _ _ => trivial), by rw [hU]; exact ((hZ.kept hS.2.1).narrow hf9).moved hW.alike, hN.warm hW⟩⟩ rfl rfl hl.1 rfl (lv_room (Nat.le_of_ble_eq_true rfl)) dX1_readSequence_183 ⟨(Nat.zero_le _), (Nat.zero_le _)⟩) hS (fun q _ h => hf9 q h) hf9 (fun u t H locs ht hvm hw hB hz1 hk1 hS => ?_)
      obtain ⟨hP, hK9, hD9⟩ := hB
      rw [ht] at hP
      have hD := hD9.weaken (fun _ q _ h => hf9 q.1 h)
      refine lv_aload_n hx hb dX1_readSequence_186 rfl (lv_at hl 2 rfl) ?_
      refine va_get (D := D) (ci := 1) (v := va_re ad (y35.2 a 0)) (C := RX1) (T := TX1) (N := 22) hx hb hts (mus hf_X1) hown hK hP a (wld_o ct ad G y35 hc hk (by decide)) rfl 0 (by decide) (hts (.fieldLink RX1 12 "VideoSuite$Decoder" "reader" "LVideoSuite$Reader;") (mu mw_640)) (fun _ h9 => h9) rfl dX1_readSequence_187 ?_
      refine lv_iconst (v := (0 : Int32)) hx hb dX1_readSequence_190 (by decide) ?_
      refine lv_iconst (v := (1 : Int32)) hx hb dX1_readSequence_191 (by decide) ?_
      obtain ⟨b36, ho36, hc36, hk36, hF⟩ := dr_some hF
      refine W_st (st' := [.int (1 : Int32), .int (0 : Int32), .ref (ad b36)]) (by rw [va_some ho36]) ?_
      obtain ⟨y37, hy37, hF⟩ := bnd_some hF
      have hf9 := wA_in hD hA9 hS
      refine va_calli (va_runV (As := [.int (0 : Int32), .int (1 : Int32)]) (rest := []) ⟨hx, hb, hml, hown, hts⟩ (kX5_fixed l D ct ad Z G y35 H.size b36 ((0 : Int32)) ((1 : Int32)) y37 hc36 hk36 hy37) (cwV 2 hts gX1_readSequence_X5_fixed rfl rfl rfl (by decide +kernel) ⟨Nat.le_of_ble_eq_true rfl, Nat.le_of_ble_eq_true rfl⟩) ⟨fun a U g mk q => by obtain ⟨q0, q1, qP, qK, qD, qZ, qN⟩ := q; exact ⟨q0, q1, qP, va_K.moved (u := U) (U := U.calling g mk a) (Vm.Alike.refl U.vm) qK, qD, sF.moved (u := U) (U := U.calling g mk a) (Vm.Alike.refl U.vm) qZ, nF.same rfl qN⟩, va_recv hK hP (ci := 5) (q0 := b36) rfl (wld_o ct ad G y35 hc36 hk36 (by decide)), fun U hU hW => ⟨rfl, by rw [hU], by rw [hU]; exact hP, va_K.moved hW.alike hK, hD.weaken (fun _ _ _ _ => trivial), by rw [hU]; exact ((hZ.kept hS.2.1).narrow hf9).moved hW.alike, hN.warm hW⟩⟩ rfl rfl hl.1 rfl (lv_room (Nat.le_of_ble_eq_true rfl)) dX1_readSequence_192 ⟨(Nat.zero_le _), (Nat.zero_le _)⟩) hS (fun q _ h => hf9 q h) hf9 (fun r u t H locs ht hvm hw hB hz1 hk1 hS => ?_)
      obtain ⟨hP, hK9, hD9⟩ := hB
      rw [ht] at hP
      try dsimp only at hw
      subst hw
      have hD := hD9.weaken (fun _ q _ h => hf9 q.1 h)
      refine lv_istore_n (lv' := [(3, .int y37.2), (2, .int y8.2), (1, va_re ad (M.2 a 9)), (0, .ref (ad a))]) hx hb dX1_readSequence_195 rfl hl (by decide) rfl (fun ls hl => ?_)
      refine lv_iconst (v := (0 : Int32)) hx hb dX1_readSequence_196 (by decide) ?_
      refine lv_istore (lv' := [(4, .int (0 : Int32)), (3, .int y37.2), (2, .int y8.2), (1, va_re ad (M.2 a 9)), (0, .ref (ad a))]) hx hb dX1_readSequence_197 hl (by decide) rfl (fun ls hl => ?_)
      obtain ⟨y38, hy38, hF⟩ := bnd_some hF
      have K38 : ∀ (H : Heap) (locs : List Loc) (ls : Array Slot), va_P D classes (wld ct ad G y38.2) H → va_D A (wld ct ad G y38.2) → va_S A s.heap H locs → lv_has ls 5 [(4, .int y38.1), (3, .int y37.2), (2, .int y8.2), (1, va_re ad (M.2 a 9)), (0, .ref (ad a))] → W p l e (headSpec wuX1_readSequence ({ frames := 4, cells := 0, slots := 0, locals := 103 })).room s m ([.ref (ad a)] : List Value).toArray below meth c H locs 0 0 (MQ below (va_Qv (fun (_ : Unit) => True) (fun _ t => kE D ct ad G A y t) A) ([.ref (ad a)] : List Value).toArray s 0 0 A) (F0 m 228 ls []) := by
        intro H locs ls hP hD hS hl
        refine lv_aload_n hx hb dX1_readSequence_228 rfl (lv_at hl 4 rfl) ?_
        refine va_get (D := D) (ci := 1) (v := va_re ad (y38.2.2 a 0)) (C := RX1) (T := TX1) (N := 22) hx hb hts (mus hf_X1) hown hK hP a (wld_o ct ad G y38.2 hc hk (by decide)) rfl 0 (by decide) (hts (.fieldLink RX1 12 "VideoSuite$Decoder" "reader" "LVideoSuite$Reader;") (mu mw_640)) (fun _ h9 => h9) rfl dX1_readSequence_229 ?_
        refine lv_iconst (v := (0 : Int32)) hx hb dX1_readSequence_232 (by decide) ?_
        obtain ⟨b41, ho41, hc41, hk41, hF⟩ := dr_some hF
        refine W_st (st' := [.int (0 : Int32), .ref (ad b41)]) (by rw [va_some ho41]) ?_
        obtain ⟨y42, hy42, hF⟩ := bnd_some hF
        have hf9 := wA_in hD hA9 hS
        refine va_callv (va_runV (As := [.int (0 : Int32)]) (rest := []) ⟨hx, hb, hml, hown, hts⟩ (kX5_expect l D ct ad Z G y38.2 H.size b41 ((0 : Int32)) y42 hc41 hk41 hy42) (cwV 1 hts gX1_readSequence_X5_expect rfl rfl rfl (by decide +kernel) ⟨Nat.le_of_ble_eq_true rfl, Nat.le_of_ble_eq_true rfl⟩) ⟨fun a U g mk q => by obtain ⟨q0, q1, qP, qK, qD, qZ, qN⟩ := q; exact ⟨q0, q1, qP, va_K.moved (u := U) (U := U.calling g mk a) (Vm.Alike.refl U.vm) qK, qD, sF.moved (u := U) (U := U.calling g mk a) (Vm.Alike.refl U.vm) qZ, nF.same rfl qN⟩, va_recv hK hP (ci := 5) (q0 := b41) rfl (wld_o ct ad G y38.2 hc41 hk41 (by decide)), fun U hU hW => ⟨rfl, by rw [hU], by rw [hU]; exact hP, va_K.moved hW.alike hK, hD.weaken (fun _ _ _ _ => trivial), by rw [hU]; exact ((hZ.kept hS.2.1).narrow hf9).moved hW.alike, hN.warm hW⟩⟩ rfl rfl hl.1 rfl (lv_room (Nat.le_of_ble_eq_true rfl)) dX1_readSequence_233 ⟨(Nat.zero_le _), (Nat.zero_le _)⟩) hS (fun q _ h => hf9 q h) hf9 (fun u t H locs ht hvm hw hB hz1 hk1 hS => ?_)
        obtain ⟨hP, hK9, hD9⟩ := hB
        rw [ht] at hP
        have hD := hD9.weaken (fun _ q _ h => hf9 q.1 h)
        refine lv_aloadq_n hx hb dX1_readSequence_236 rfl (lv_at hl 3 rfl) ?_
        refine lv_bipush (v := (23 : Int32)) hx hb dX1_readSequence_237 (by decide) ?_
        refine lv_iconst (v := (1 : Int32)) hx hb dX1_readSequence_239 (by decide) ?_
        refine W_st (st' := [.int (1 : Int32), .int (23 : Int32), .ref (ad b11)]) (by rw [va_some ho11]) ?_
        obtain ⟨hvc, hF⟩ := chk_some hF
        refine va_iast hx hb hK hP hD hS b11 1 (wld_i ct ad G y42 hc11 hk11) rfl hvc dX1_readSequence_240 (fun H locs hP hD hS => ?_)
        obtain ⟨M43, eM43, hF⟩ := ltt_some hF
        rw [set_i ct ad G y42 hc11 hk11, ← eM43] at hP hD
        refine lv_aloadq_n hx hb dX1_readSequence_241 rfl (lv_at hl 3 rfl) ?_
        refine lv_iconst (v := (0 : Int32)) hx hb dX1_readSequence_242 (by decide) ?_
        refine lv_aload_n hx hb dX1_readSequence_243 rfl (lv_at hl 4 rfl) ?_
        refine va_get (D := D) (ci := 1) (v := va_re ad (M43.2 a 5)) (C := RX1) (T := TX1) (N := 22) hx hb hts (mus hf_X1) hown hK hP a (wld_o ct ad G M43 hc hk (by decide)) rfl 5 (by decide) (hts (.fieldLink RX1 48 "VideoSuite$Decoder" "sequences" "[[I") (mu mw_647)) (fun _ h9 => h9) rfl dX1_readSequence_244 ?_
        refine lv_iload_n hx hb dX1_readSequence_247 rfl (lv_at hl 2 rfl) ?_
        obtain ⟨b44, ho44, hc44, hk44, hF⟩ := dr_some hF
        refine W_st (st' := [.int y8.2, .ref (ad b44), .int (0 : Int32), va_re ad (M.2 a 9)]) (by rw [va_some ho44]) ?_
        obtain ⟨hvc, hF⟩ := chk_some hF
        refine ld_g hx hb hK hP hc44 hk44 hvc dX1_readSequence_248 ?_
        refine lv_iconst (v := (0 : Int32)) hx hb dX1_readSequence_249 (by decide) ?_
        refine lv_bipush (v := (24 : Int32)) hx hb dX1_readSequence_250 (by decide) ?_
        refine W_st (st' := [.int (24 : Int32), .int (0 : Int32), va_re ad (M43.2 b44 y8.2.toNatClampNeg), .int (0 : Int32), .ref (ad b11)]) (by rw [va_some ho11]) ?_
        obtain ⟨b45, ho45, hc45, hk45, hF⟩ := dr_some hF
        refine W_st (st' := [.int (24 : Int32), .int (0 : Int32), .ref (ad b45), .int (0 : Int32), .ref (ad b11)]) (by rw [va_some ho45]) ?_
        obtain ⟨hv9, hF⟩ := chk_some hF
        refine va_copyi (ty := .int) hx hb (hml.trans hl.1.symm) hown (hts (.methodLink RX1 203 arraycopyName) (mu mw_1537)) (hts (.native arraycopyName) (mu mw_1093)) (hts (.static arraycopyName) (mu mw_1092)) (hts (.initialized "java/lang/System") (mu mw_181)) hK hP hD hS b11 b45 1 1 (wld_i ct ad G M43 hc11 hk11) (wld_i ct ad G M43 hc45 hk45) rfl rfl rfl hv9.1 hv9.2.1 hv9.2.2.1 hv9.2.2.2.1 hv9.2.2.2.2 (fun _ _ => rfl) (Nat.le_of_ble_eq_true rfl) (by decide +kernel) dX1_readSequence_252 (fun H locs hP hD hS => ?_)
        obtain ⟨M46, eM46, hF⟩ := ltt_some hF
        rw [set_ri ct ad G M43 hc45 hk45, ← eM46] at hP hD
        obtain rfl := Option.some.inj hF
        exact W.vret hx hb hr (fun t ht hW => ⟨⟨(), rfl, trivial, ⟨by rw [ht]; exact hP, va_K.moved hW.alike hK, hD⟩⟩, hS.F ht⟩) hS.2.2 dX1_readSequence_255
      clear hF
      refine itr_rule (fun (s39 : Int32 × DD) => ∀ (H : Heap) (locs : List Loc) (ls : Array Slot), va_P D classes (wld ct ad G s39.2) H → va_D A (wld ct ad G s39.2) → va_S A s.heap H locs → lv_has ls 5 [(4, .int s39.1), (3, .int y37.2), (2, .int y8.2), (1, va_re ad (M.2 a 9)), (0, .ref (ad a))] → W p l e (headSpec wuX1_readSequence ({ frames := 4, cells := 0, slots := 0, locals := 103 })).room s m ([.ref (ad a)] : List Value).toArray below meth c H locs 0 0 (MQ below (va_Qv (fun (_ : Unit) => True) (fun _ t => kE D ct ad G A y t) A) ([.ref (ad a)] : List Value).toArray s 0 0 A) (F0 m 199 ls [])) ?_ _ _ hy38 _ _ _ hP hD hS (lv_sub hl [0, 1, 2, 3, 4] rfl)
      rintro s39 ⟨z47, hF, hwz47⟩ H locs ls hP hD hS hl
      try dsimp only at hF
      refine lv_iload hx hb dX1_readSequence_199 (lv_at hl 0 rfl) ?_
      refine lv_iconst (v := (4 : Int32)) hx hb dX1_readSequence_201 (by decide) ?_
      refine lv_icmp_ge (tgt := 228) hx hb dX1_readSequence_202 (by decide) (fun c48 => ?_) (fun c48 => ?_)
      · rw [if_pos c48] at hF
        obtain rfl := Option.some.inj hF
        subst hwz47
        exact K38 _ _ _ hP hD hS (lv_sub hl [0, 1, 2, 3, 4] rfl)
      · rw [if_neg c48] at hF
        refine lv_iload_n hx hb dX1_readSequence_205 rfl (lv_at hl 1 rfl) ?_
        refine lv_iconst (v := (1 : Int32)) hx hb dX1_readSequence_206 (by decide) ?_
        refine lv_icmp_ne (tgt := 228) hx hb dX1_readSequence_207 (by decide) (fun c49 => ?_) (fun c49 => ?_)
        · rw [if_neg c49] at hF
          obtain rfl := Option.some.inj hF
          subst hwz47
          exact K38 _ _ _ hP hD hS (lv_sub hl [0, 1, 2, 3, 4] rfl)
        · rw [if_pos c49] at hF
          refine lv_aloadq_n hx hb dX1_readSequence_210 rfl (lv_at hl 3 rfl) ?_
          refine lv_bipush (v := (7 : Int32)) hx hb dX1_readSequence_211 (by decide) ?_
          refine lv_iload hx hb dX1_readSequence_213 (lv_at hl 0 rfl) ?_
          refine lv_iadd hx hb dX1_readSequence_215 ?_
          obtain ⟨x50, ex50, hF⟩ := ltt_some hF
          refine lv_topi (fun zx50 ezx50 => ?_)
          obtain rfl : x50 = zx50 := ex50.trans ezx50.symm
          refine lv_aload_n hx hb dX1_readSequence_216 rfl (lv_at hl 4 rfl) ?_
          refine lv_iconst (v := (3 : Int32)) hx hb dX1_readSequence_217 (by decide) ?_
          obtain ⟨y51, hy51, hF⟩ := bnd_some hF
          have hf9 := wA_in hD hA9 hS
          refine va_calli (va_runV (As := [.int (3 : Int32)]) (rest := [.int x50, va_re ad (M.2 a 9)]) ⟨hx, hb, hml, hown, hts⟩ (kX1_unsigned l D ct ad Z G s39.2 H.size a ((3 : Int32)) y51 hc hk hy51) (cwV 1 hts gX1_readSequence_X1_unsigned rfl rfl rfl (by decide +kernel) ⟨Nat.le_of_ble_eq_true rfl, Nat.le_of_ble_eq_true rfl⟩) ⟨fun a U g mk q => by obtain ⟨q0, q1, qP, qK, qD, qZ, qN⟩ := q; exact ⟨q0, q1, qP, va_K.moved (u := U) (U := U.calling g mk a) (Vm.Alike.refl U.vm) qK, qD, sF.moved (u := U) (U := U.calling g mk a) (Vm.Alike.refl U.vm) qZ, nF.same rfl qN⟩, va_recv hK hP (ci := 1) (q0 := a) rfl (wld_o ct ad G s39.2 hc hk (by decide)), fun U hU hW => ⟨rfl, by rw [hU], by rw [hU]; exact hP, va_K.moved hW.alike hK, hD.weaken (fun _ _ _ _ => trivial), by rw [hU]; exact ((hZ.kept hS.2.1).narrow hf9).moved hW.alike, hN.warm hW⟩⟩ rfl rfl hl.1 rfl (lv_room (by simp only [List.map, va_re_cat]; exact Nat.le_of_ble_eq_true rfl)) dX1_readSequence_218 ⟨(Nat.zero_le _), (Nat.zero_le _)⟩) hS (fun q _ h => hf9 q h) hf9 (fun r u t H locs ht hvm hw hB hz1 hk1 hS => ?_)
          obtain ⟨hP, hK9, hD9⟩ := hB
          rw [ht] at hP
          try dsimp only at hw
          subst hw
          have hD := hD9.weaken (fun _ q _ h => hf9 q.1 h)
          refine W_st (st' := [.int y51.2, .int x50, .ref (ad b11)]) (by rw [va_some ho11]) ?_
          obtain ⟨hvc, hF⟩ := chk_some hF
          refine va_iast hx hb hK hP hD hS b11 1 (wld_i ct ad G y51.1 hc11 hk11) rfl hvc dX1_readSequence_221 (fun H locs hP hD hS => ?_)
          obtain ⟨M52, eM52, hF⟩ := ltt_some hF
          rw [set_i ct ad G y51.1 hc11 hk11, ← eM52] at hP hD
          obtain ⟨x53, ex53, hF⟩ := ltt_some hF
          refine lv_iinc (v := x53) (lv' := [(4, .int x53), (3, .int y37.2), (2, .int y8.2), (1, va_re ad (M.2 a 9)), (0, .ref (ad a))]) hx hb dX1_readSequence_222 hl (k := 0) rfl (by rw [ex53]; rfl) (by decide) rfl (fun ls hl => ?_)
          refine lv_goto (tgt := 199) hx hb dX1_readSequence_225 (by decide) ?_
          obtain rfl := Option.some.inj hF
          exact hwz47 _ _ _ hP hD hS (lv_sub hl [0, 1, 2, 3, 4] rfl)
    clear hF
    have hF := hy31
    clear hy31
    refine lv_icmp_le (tgt := 170) hx hb dX1_readSequence_152 (by decide) (fun c54 => ?_) (fun c54 => ?_)
    · rw [if_pos c54] at hF
      obtain rfl := Option.some.inj hF
      exact J31 _ _ _ hP hD hS (lv_sub hl [0, 1, 2] rfl)
    · rw [if_neg c54] at hF
      refine lv_aload_n hx hb dX1_readSequence_155 rfl (lv_at hl 2 rfl) ?_
      refine va_get (D := D) (ci := 1) (v := va_re ad (M27.2 a 0)) (C := RX1) (T := TX1) (N := 22) hx hb hts (mus hf_X1) hown hK hP a (wld_o ct ad G M27 hc hk (by decide)) rfl 0 (by decide) (hts (.fieldLink RX1 12 "VideoSuite$Decoder" "reader" "LVideoSuite$Reader;") (mu mw_640)) (fun _ h9 => h9) rfl dX1_readSequence_156 ?_
      refine lv_iconst (v := (2 : Int32)) hx hb dX1_readSequence_159 (by decide) ?_
      refine lv_aload_n hx hb dX1_readSequence_160 rfl (lv_at hl 2 rfl) ?_
      refine va_get (D := D) (ci := 1) (v := va_re ad (M27.2 a 0)) (C := RX1) (T := TX1) (N := 22) hx hb hts (mus hf_X1) hown hK hP a (wld_o ct ad G M27 hc hk (by decide)) rfl 0 (by decide) (hts (.fieldLink RX1 12 "VideoSuite$Decoder" "reader" "LVideoSuite$Reader;") (mu mw_640)) (fun _ h9 => h9) rfl dX1_readSequence_161 ?_
      obtain ⟨b55, ho55, hc55, hk55, hF⟩ := dr_some hF
      refine W_st (st' := [.ref (ad b55), .int (2 : Int32), .ref (ad b55)]) (by rw [va_some ho55]) ?_
      refine va_get (D := D) (ci := 5) (v := .int (M27.1 b55 4)) (C := RX5) (T := TX5) (N := 17) hx hb hts (mus hf_X5) hown hK hP b55 (wld_o ct ad G M27 hc55 hk55 (by decide)) rfl 4 (by decide) (hts (.fieldLink RX1 194 "VideoSuite$Reader" "begin" "I") (mu mw_293)) (fun _ h9 => h9) rfl dX1_readSequence_164 ?_
      obtain ⟨x56, ex56, hF⟩ := ltt_some hF
      refine lv_topi (fun zx56 ezx56 => ?_)
      obtain rfl : x56 = zx56 := ex56.trans ezx56.symm
      cases hF
  clear hF
  have hF := hy16
  clear hy16
  refine lv_if_ne (tgt := 88) hx hb dX1_readSequence_71 (by decide) (fun c57 => ?_) (fun c57 => ?_)
  · rw [if_neg c57] at hF
    refine lv_aloadq_n hx hb dX1_readSequence_88 rfl (lv_at hl 1 rfl) ?_
    refine lv_iconst (v := (3 : Int32)) hx hb dX1_readSequence_89 (by decide) ?_
    refine W_st (st' := [.int (3 : Int32), .ref (ad b11)]) (by rw [va_some ho11]) ?_
    obtain ⟨hvc, hF⟩ := chk_some hF
    refine va_iald hx hb hK hP b11 1 (wld_i ct ad G M14 hc11 hk11) rfl hvc dX1_readSequence_90 ?_
    obtain ⟨x58, ex58, hF⟩ := ltt_some hF
    refine lv_topi (fun zx58 ezx58 => ?_)
    obtain rfl : x58 = zx58 := ex58.trans ezx58.symm
    refine lv_iconst (v := (1 : Int32)) hx hb dX1_readSequence_91 (by decide) ?_
    obtain ⟨y59, hy59, hF⟩ := bnd_some hF
    have J59 : ∀ (H : Heap) (locs : List Loc) (ls : Array Slot), va_P D classes (wld ct ad G y59) H → va_D A (wld ct ad G y59) → va_S A s.heap H locs → lv_has ls 5 [(2, .int y8.2), (1, va_re ad (M.2 a 9)), (0, .ref (ad a))] → W p l e (headSpec wuX1_readSequence ({ frames := 4, cells := 0, slots := 0, locals := 103 })).room s m ([.ref (ad a)] : List Value).toArray below meth c H locs 0 0 (MQ below (va_Qv (fun (_ : Unit) => True) (fun _ t => kE D ct ad G A y t) A) ([.ref (ad a)] : List Value).toArray s 0 0 A) (F0 m 100 ls []) := by
      intro H locs ls hP hD hS hl
      obtain rfl := Option.some.inj hF
      exact J16 _ _ _ hP hD hS (lv_sub hl [0, 1, 2] rfl)
    clear hF
    have hF := hy59
    clear hy59
    refine lv_icmp_ne (tgt := 100) hx hb dX1_readSequence_92 (by decide) (fun c60 => ?_) (fun c60 => ?_)
    · rw [if_neg c60] at hF
      obtain rfl := Option.some.inj hF
      exact J59 _ _ _ hP hD hS (lv_sub hl [0, 1, 2] rfl)
    · rw [if_pos c60] at hF
      refine lv_aload_n hx hb dX1_readSequence_95 rfl (lv_at hl 2 rfl) ?_
      refine lv_aloadq_n hx hb dX1_readSequence_96 rfl (lv_at hl 1 rfl) ?_
      obtain ⟨y61, hy61, hF⟩ := bnd_some hF
      have hf9 := wA_in hD hA9 hS
      refine va_callv (va_runV (As := [va_re ad (M.2 a 9)]) (rest := []) ⟨hx, hb, hml, hown, hts⟩ (kX1_readTurns l D ct ad Z G M14 H.size a ((M.2 a 9)) y61 hc hk hy61) (cwV 1 hts gX1_readSequence_X1_readTurns rfl rfl rfl (by decide +kernel) ⟨Nat.le_of_ble_eq_true rfl, Nat.le_of_ble_eq_true rfl⟩) ⟨fun a U g mk q => by obtain ⟨q0, q1, qP, qK, qD, qZ, qN⟩ := q; exact ⟨q0, q1, qP, va_K.moved (u := U) (U := U.calling g mk a) (Vm.Alike.refl U.vm) qK, qD, sF.moved (u := U) (U := U.calling g mk a) (Vm.Alike.refl U.vm) qZ, nF.same rfl qN⟩, va_recv hK hP (ci := 1) (q0 := a) rfl (wld_o ct ad G M14 hc hk (by decide)), fun U hU hW => ⟨rfl, by rw [hU], by rw [hU]; exact hP, va_K.moved hW.alike hK, hD.weaken (fun _ _ _ _ => trivial), by rw [hU]; exact ((hZ.kept hS.2.1).narrow hf9).moved hW.alike, hN.warm hW⟩⟩ rfl rfl hl.1 rfl (lv_room (Nat.le_of_ble_eq_true rfl)) dX1_readSequence_97 ⟨(Nat.zero_le _), (Nat.zero_le _)⟩) hS (fun q _ h => hf9 q h) hf9 (fun u t H locs ht hvm hw hB hz1 hk1 hS => ?_)
      obtain ⟨hP, hK9, hD9⟩ := hB
      rw [ht] at hP
      have hD := hD9.weaken (fun _ q _ h => hf9 q.1 h)
      obtain rfl := Option.some.inj hF
      exact J59 _ _ _ hP hD hS (lv_sub hl [0, 1, 2] rfl)
  · rw [if_pos c57] at hF
    refine lv_aloadq_n hx hb dX1_readSequence_74 rfl (lv_at hl 1 rfl) ?_
    refine lv_iconst (v := (4 : Int32)) hx hb dX1_readSequence_75 (by decide) ?_
    refine lv_aload_n hx hb dX1_readSequence_76 rfl (lv_at hl 2 rfl) ?_
    refine lv_bipush (v := (12 : Int32)) hx hb dX1_readSequence_77 (by decide) ?_
    obtain ⟨y62, hy62, hF⟩ := bnd_some hF
    have hf9 := wA_in hD hA9 hS
    refine va_calli (va_runV (As := [.int (12 : Int32)]) (rest := [.int (4 : Int32), va_re ad (M.2 a 9)]) ⟨hx, hb, hml, hown, hts⟩ (kX1_unsigned l D ct ad Z G M14 H.size a ((12 : Int32)) y62 hc hk hy62) (cwV 1 hts gX1_readSequence_X1_unsigned rfl rfl rfl (by decide +kernel) ⟨Nat.le_of_ble_eq_true rfl, Nat.le_of_ble_eq_true rfl⟩) ⟨fun a U g mk q => by obtain ⟨q0, q1, qP, qK, qD, qZ, qN⟩ := q; exact ⟨q0, q1, qP, va_K.moved (u := U) (U := U.calling g mk a) (Vm.Alike.refl U.vm) qK, qD, sF.moved (u := U) (U := U.calling g mk a) (Vm.Alike.refl U.vm) qZ, nF.same rfl qN⟩, va_recv hK hP (ci := 1) (q0 := a) rfl (wld_o ct ad G M14 hc hk (by decide)), fun U hU hW => ⟨rfl, by rw [hU], by rw [hU]; exact hP, va_K.moved hW.alike hK, hD.weaken (fun _ _ _ _ => trivial), by rw [hU]; exact ((hZ.kept hS.2.1).narrow hf9).moved hW.alike, hN.warm hW⟩⟩ rfl rfl hl.1 rfl (lv_room (by simp only [List.map, va_re_cat]; exact Nat.le_of_ble_eq_true rfl)) dX1_readSequence_79 ⟨(Nat.zero_le _), (Nat.zero_le _)⟩) hS (fun q _ h => hf9 q h) hf9 (fun r u t H locs ht hvm hw hB hz1 hk1 hS => ?_)
    obtain ⟨hP, hK9, hD9⟩ := hB
    rw [ht] at hP
    try dsimp only at hw
    subst hw
    have hD := hD9.weaken (fun _ q _ h => hf9 q.1 h)
    refine lv_iconst (v := (4 : Int32)) hx hb dX1_readSequence_82 (by decide) ?_
    refine lv_iadd hx hb dX1_readSequence_83 ?_
    obtain ⟨x63, ex63, hF⟩ := ltt_some hF
    refine lv_topi (fun zx63 ezx63 => ?_)
    obtain rfl : x63 = zx63 := ex63.trans ezx63.symm
    refine W_st (st' := [.int x63, .int (4 : Int32), .ref (ad b11)]) (by rw [va_some ho11]) ?_
    obtain ⟨hvc, hF⟩ := chk_some hF
    refine va_iast hx hb hK hP hD hS b11 1 (wld_i ct ad G y62.1 hc11 hk11) rfl hvc dX1_readSequence_84 (fun H locs hP hD hS => ?_)
    obtain ⟨M64, eM64, hF⟩ := ltt_some hF
    rw [set_i ct ad G y62.1 hc11 hk11, ← eM64] at hP hD
    refine lv_goto (tgt := 100) hx hb dX1_readSequence_85 (by decide) ?_
    obtain rfl := Option.some.inj hF
    exact J16 _ _ _ hP hD hS (lv_sub hl [0, 1, 2] rfl)
set_option maxRecDepth 20000 in
theorem gX0_chooseByChance_X0_draw : GoodIn wuX0_chooseByChance (wsV RX0 334 RX0 yX0_draw wuX0_draw) := gu_V mw_2470 mw_2472 mw_121 mw_175 mw_2473
set_option maxRecDepth 20000 in
set_option maxRecDepth 20000 in
theorem gX0_chooseByChance_X9_sides : GoodIn wuX0_chooseByChance (wsV RX0 353 RX9 yX9_sides wuX9_sides) := gu_V mw_2487 mw_1989 mw_1990 mw_171 mw_1991
set_option maxRecDepth 20000 in
set_option maxRecDepth 20000 in
theorem gX0_chooseByChance_X0_drawMode : GoodIn wuX0_chooseByChance (wsV RX0 359 RX0 yX0_drawMode wuX0_drawMode) := gu_V mw_2488 mw_2490 mw_124 mw_175 mw_2491
set_option maxRecDepth 20000 in
set_option maxRecDepth 20000 in
theorem gX0_chooseByChance_J7_fill_fda19 : GoodIn wuX0_chooseByChance (va_wsS RX0 362 yJ7_fill_fda19 wuJ7_fill_fda19) := gu_S mw_2498 mw_1556 mw_182 mw_1557
set_option maxRecDepth 20000 in
set_option maxRecDepth 20000 in
theorem gX0_chooseByChance_X9_sidesOf : GoodIn wuX0_chooseByChance (va_wsS RX0 365 yX9_sidesOf wuX9_sidesOf) := gu_S mw_2499 mw_2108 mw_171 mw_2109
set_option maxRecDepth 20000 in
set_option maxRecDepth 20000 in
theorem gX0_chooseByChance_X0_drawByLists : GoodIn wuX0_chooseByChance (wsV RX0 369 RX0 yX0_drawByLists wuX0_drawByLists) := gu_V mw_2500 mw_2502 mw_125 mw_175 mw_2503
theorem dX0_chooseByChance_0 : decode cX0_chooseByChance 0 = .ok (.bipush 8, 2) := by decide +kernel
theorem dX0_chooseByChance_2 : decode cX0_chooseByChance 2 = .ok (.iload_n 1, 1) := by decide +kernel
theorem dX0_chooseByChance_3 : decode cX0_chooseByChance 3 = .ok (.imul, 1) := by decide +kernel
theorem dX0_chooseByChance_4 : decode cX0_chooseByChance 4 = .ok (.istore_n 2, 1) := by decide +kernel
theorem dX0_chooseByChance_5 : decode cX0_chooseByChance 5 = .ok (.aload_n 0, 1) := by decide +kernel
theorem dX0_chooseByChance_6 : decode cX0_chooseByChance 6 = .ok (.getfield 36, 3) := by decide +kernel
theorem dX0_chooseByChance_9 : decode cX0_chooseByChance 9 = .ok (.getfield 81, 3) := by decide +kernel
theorem dX0_chooseByChance_12 : decode cX0_chooseByChance 12 = .ok (.getfield 252, 3) := by decide +kernel
theorem dX0_chooseByChance_15 : decode cX0_chooseByChance 15 = .ok (.iconst 1, 1) := by decide +kernel
theorem dX0_chooseByChance_16 : decode cX0_chooseByChance 16 = .ok (.iaload, 1) := by decide +kernel
theorem dX0_chooseByChance_17 : decode cX0_chooseByChance 17 = .ok (.istore_n 3, 1) := by decide +kernel
theorem dX0_chooseByChance_18 : decode cX0_chooseByChance 18 = .ok (.aload_n 0, 1) := by decide +kernel
theorem dX0_chooseByChance_19 : decode cX0_chooseByChance 19 = .ok (.bipush 16, 2) := by decide +kernel
theorem dX0_chooseByChance_21 : decode cX0_chooseByChance 21 = .ok (.invokevirtual 334, 3) := by decide +kernel
theorem dX0_chooseByChance_24 : decode cX0_chooseByChance 24 = .ok (.istore 4, 2) := by decide +kernel
theorem dX0_chooseByChance_26 : decode cX0_chooseByChance 26 = .ok (.iload 4, 2) := by decide +kernel
theorem dX0_chooseByChance_28 : decode cX0_chooseByChance 28 = .ok (.ifCond .ne 28, 3) := by decide +kernel
theorem dX0_chooseByChance_31 : decode cX0_chooseByChance 31 = .ok (.aload_n 0, 1) := by decide +kernel
theorem dX0_chooseByChance_32 : decode cX0_chooseByChance 32 = .ok (.bipush 8, 2) := by decide +kernel
theorem dX0_chooseByChance_34 : decode cX0_chooseByChance 34 = .ok (.invokevirtual 334, 3) := by decide +kernel
theorem dX0_chooseByChance_37 : decode cX0_chooseByChance 37 = .ok (.ifCond .ne 16, 3) := by decide +kernel
theorem dX0_chooseByChance_40 : decode cX0_chooseByChance 40 = .ok (.aload_n 0, 1) := by decide +kernel
theorem dX0_chooseByChance_41 : decode cX0_chooseByChance 41 = .ok (.getfield 36, 3) := by decide +kernel
theorem dX0_chooseByChance_44 : decode cX0_chooseByChance 44 = .ok (.getfield 216, 3) := by decide +kernel
theorem dX0_chooseByChance_47 : decode cX0_chooseByChance 47 = .ok (.iload_n 2, 1) := by decide +kernel
theorem dX0_chooseByChance_48 : decode cX0_chooseByChance 48 = .ok (.iconst 0, 1) := by decide +kernel
theorem dX0_chooseByChance_49 : decode cX0_chooseByChance 49 = .ok (.iadd, 1) := by decide +kernel
theorem dX0_chooseByChance_50 : decode cX0_chooseByChance 50 = .ok (.iconst 2, 1) := by decide +kernel
theorem dX0_chooseByChance_51 : decode cX0_chooseByChance 51 = .ok (.iastore, 1) := by decide +kernel
theorem dX0_chooseByChance_52 : decode cX0_chooseByChance 52 = .ok (.return_, 1) := by decide +kernel
theorem dX0_chooseByChance_53 : decode cX0_chooseByChance 53 = .ok (.iconst 1, 1) := by decide +kernel
theorem dX0_chooseByChance_54 : decode cX0_chooseByChance 54 = .ok (.istore 4, 2) := by decide +kernel
theorem dX0_chooseByChance_56 : decode cX0_chooseByChance 56 = .ok (.aload_n 0, 1) := by decide +kernel
theorem dX0_chooseByChance_57 : decode cX0_chooseByChance 57 = .ok (.getfield 36, 3) := by decide +kernel
theorem dX0_chooseByChance_60 : decode cX0_chooseByChance 60 = .ok (.iload_n 1, 1) := by decide +kernel
theorem dX0_chooseByChance_61 : decode cX0_chooseByChance 61 = .ok (.invokevirtual 353, 3) := by decide +kernel
theorem dX0_chooseByChance_64 : decode cX0_chooseByChance 64 = .ok (.istore 5, 2) := by decide +kernel
theorem dX0_chooseByChance_66 : decode cX0_chooseByChance 66 = .ok (.iload 4, 2) := by decide +kernel
theorem dX0_chooseByChance_68 : decode cX0_chooseByChance 68 = .ok (.iconst 1, 1) := by decide +kernel
theorem dX0_chooseByChance_69 : decode cX0_chooseByChance 69 = .ok (.if_icmp .eq 15, 3) := by decide +kernel
theorem dX0_chooseByChance_72 : decode cX0_chooseByChance 72 = .ok (.iload_n 3, 1) := by decide +kernel
theorem dX0_chooseByChance_73 : decode cX0_chooseByChance 73 = .ok (.iconst 2, 1) := by decide +kernel
theorem dX0_chooseByChance_74 : decode cX0_chooseByChance 74 = .ok (.if_icmp .ne 73, 3) := by decide +kernel
theorem dX0_chooseByChance_77 : decode cX0_chooseByChance 77 = .ok (.iload 4, 2) := by decide +kernel
theorem dX0_chooseByChance_79 : decode cX0_chooseByChance 79 = .ok (.bipush 8, 2) := by decide +kernel
theorem dX0_chooseByChance_81 : decode cX0_chooseByChance 81 = .ok (.if_icmp .ge 66, 3) := by decide +kernel
theorem dX0_chooseByChance_84 : decode cX0_chooseByChance 84 = .ok (.aload_n 0, 1) := by decide +kernel
theorem dX0_chooseByChance_85 : decode cX0_chooseByChance 85 = .ok (.getfield 36, 3) := by decide +kernel
theorem dX0_chooseByChance_88 : decode cX0_chooseByChance 88 = .ok (.getfield 216, 3) := by decide +kernel
theorem dX0_chooseByChance_91 : decode cX0_chooseByChance 91 = .ok (.iload_n 2, 1) := by decide +kernel
theorem dX0_chooseByChance_92 : decode cX0_chooseByChance 92 = .ok (.iconst 0, 1) := by decide +kernel
theorem dX0_chooseByChance_93 : decode cX0_chooseByChance 93 = .ok (.iadd, 1) := by decide +kernel
theorem dX0_chooseByChance_94 : decode cX0_chooseByChance 94 = .ok (.iconst 1, 1) := by decide +kernel
theorem dX0_chooseByChance_95 : decode cX0_chooseByChance 95 = .ok (.iastore, 1) := by decide +kernel
theorem dX0_chooseByChance_96 : decode cX0_chooseByChance 96 = .ok (.aload_n 0, 1) := by decide +kernel
theorem dX0_chooseByChance_97 : decode cX0_chooseByChance 97 = .ok (.getfield 36, 3) := by decide +kernel
theorem dX0_chooseByChance_100 : decode cX0_chooseByChance 100 = .ok (.getfield 356, 3) := by decide +kernel
theorem dX0_chooseByChance_103 : decode cX0_chooseByChance 103 = .ok (.bipush 16, 2) := by decide +kernel
theorem dX0_chooseByChance_105 : decode cX0_chooseByChance 105 = .ok (.iload_n 1, 1) := by decide +kernel
theorem dX0_chooseByChance_106 : decode cX0_chooseByChance 106 = .ok (.imul, 1) := by decide +kernel
theorem dX0_chooseByChance_107 : decode cX0_chooseByChance 107 = .ok (.bipush 16, 2) := by decide +kernel
theorem dX0_chooseByChance_109 : decode cX0_chooseByChance 109 = .ok (.iload_n 1, 1) := by decide +kernel
theorem dX0_chooseByChance_110 : decode cX0_chooseByChance 110 = .ok (.imul, 1) := by decide +kernel
theorem dX0_chooseByChance_111 : decode cX0_chooseByChance 111 = .ok (.bipush 16, 2) := by decide +kernel
theorem dX0_chooseByChance_113 : decode cX0_chooseByChance 113 = .ok (.iadd, 1) := by decide +kernel
theorem dX0_chooseByChance_114 : decode cX0_chooseByChance 114 = .ok (.aload_n 0, 1) := by decide +kernel
theorem dX0_chooseByChance_115 : decode cX0_chooseByChance 115 = .ok (.iconst 1, 1) := by decide +kernel
theorem dX0_chooseByChance_116 : decode cX0_chooseByChance 116 = .ok (.iconst 4, 1) := by decide +kernel
theorem dX0_chooseByChance_117 : decode cX0_chooseByChance 117 = .ok (.iload 5, 2) := by decide +kernel
theorem dX0_chooseByChance_119 : decode cX0_chooseByChance 119 = .ok (.invokevirtual 359, 3) := by decide +kernel
theorem dX0_chooseByChance_122 : decode cX0_chooseByChance 122 = .ok (.invokestatic 362, 3) := by decide +kernel
theorem dX0_chooseByChance_125 : decode cX0_chooseByChance 125 = .ok (.aload_n 0, 1) := by decide +kernel
theorem dX0_chooseByChance_126 : decode cX0_chooseByChance 126 = .ok (.getfield 36, 3) := by decide +kernel
theorem dX0_chooseByChance_129 : decode cX0_chooseByChance 129 = .ok (.getfield 216, 3) := by decide +kernel
theorem dX0_chooseByChance_132 : decode cX0_chooseByChance 132 = .ok (.iload_n 2, 1) := by decide +kernel
theorem dX0_chooseByChance_133 : decode cX0_chooseByChance 133 = .ok (.iconst 5, 1) := by decide +kernel
theorem dX0_chooseByChance_134 : decode cX0_chooseByChance 134 = .ok (.iadd, 1) := by decide +kernel
theorem dX0_chooseByChance_135 : decode cX0_chooseByChance 135 = .ok (.aload_n 0, 1) := by decide +kernel
theorem dX0_chooseByChance_136 : decode cX0_chooseByChance 136 = .ok (.iconst (-1), 1) := by decide +kernel
theorem dX0_chooseByChance_137 : decode cX0_chooseByChance 137 = .ok (.iconst 4, 1) := by decide +kernel
theorem dX0_chooseByChance_138 : decode cX0_chooseByChance 138 = .ok (.iload 5, 2) := by decide +kernel
theorem dX0_chooseByChance_140 : decode cX0_chooseByChance 140 = .ok (.invokevirtual 359, 3) := by decide +kernel
theorem dX0_chooseByChance_143 : decode cX0_chooseByChance 143 = .ok (.iastore, 1) := by decide +kernel
theorem dX0_chooseByChance_144 : decode cX0_chooseByChance 144 = .ok (.goto 201, 3) := by decide +kernel
theorem dX0_chooseByChance_147 : decode cX0_chooseByChance 147 = .ok (.iload 4, 2) := by decide +kernel
theorem dX0_chooseByChance_149 : decode cX0_chooseByChance 149 = .ok (.iconst 2, 1) := by decide +kernel
theorem dX0_chooseByChance_150 : decode cX0_chooseByChance 150 = .ok (.if_icmp .eq 8, 3) := by decide +kernel
theorem dX0_chooseByChance_153 : decode cX0_chooseByChance 153 = .ok (.iload_n 3, 1) := by decide +kernel
theorem dX0_chooseByChance_154 : decode cX0_chooseByChance 154 = .ok (.iconst 2, 1) := by decide +kernel
theorem dX0_chooseByChance_155 : decode cX0_chooseByChance 155 = .ok (.if_icmp .ne 82, 3) := by decide +kernel
theorem dX0_chooseByChance_158 : decode cX0_chooseByChance 158 = .ok (.aload_n 0, 1) := by decide +kernel
theorem dX0_chooseByChance_159 : decode cX0_chooseByChance 159 = .ok (.getfield 36, 3) := by decide +kernel
theorem dX0_chooseByChance_162 : decode cX0_chooseByChance 162 = .ok (.getfield 216, 3) := by decide +kernel
theorem dX0_chooseByChance_165 : decode cX0_chooseByChance 165 = .ok (.iload_n 2, 1) := by decide +kernel
theorem dX0_chooseByChance_166 : decode cX0_chooseByChance 166 = .ok (.iconst 0, 1) := by decide +kernel
theorem dX0_chooseByChance_167 : decode cX0_chooseByChance 167 = .ok (.iadd, 1) := by decide +kernel
theorem dX0_chooseByChance_168 : decode cX0_chooseByChance 168 = .ok (.iconst 0, 1) := by decide +kernel
theorem dX0_chooseByChance_169 : decode cX0_chooseByChance 169 = .ok (.iastore, 1) := by decide +kernel
theorem dX0_chooseByChance_170 : decode cX0_chooseByChance 170 = .ok (.iconst 0, 1) := by decide +kernel
theorem dX0_chooseByChance_171 : decode cX0_chooseByChance 171 = .ok (.istore 6, 2) := by decide +kernel
theorem dX0_chooseByChance_173 : decode cX0_chooseByChance 173 = .ok (.iload 6, 2) := by decide +kernel
theorem dX0_chooseByChance_175 : decode cX0_chooseByChance 175 = .ok (.bipush 16, 2) := by decide +kernel
theorem dX0_chooseByChance_177 : decode cX0_chooseByChance 177 = .ok (.if_icmp .ge 38, 3) := by decide +kernel
theorem dX0_chooseByChance_180 : decode cX0_chooseByChance 180 = .ok (.aload_n 0, 1) := by decide +kernel
theorem dX0_chooseByChance_181 : decode cX0_chooseByChance 181 = .ok (.getfield 36, 3) := by decide +kernel
theorem dX0_chooseByChance_184 : decode cX0_chooseByChance 184 = .ok (.getfield 356, 3) := by decide +kernel
theorem dX0_chooseByChance_187 : decode cX0_chooseByChance 187 = .ok (.bipush 16, 2) := by decide +kernel
theorem dX0_chooseByChance_189 : decode cX0_chooseByChance 189 = .ok (.iload_n 1, 1) := by decide +kernel
theorem dX0_chooseByChance_190 : decode cX0_chooseByChance 190 = .ok (.imul, 1) := by decide +kernel
theorem dX0_chooseByChance_191 : decode cX0_chooseByChance 191 = .ok (.iload 6, 2) := by decide +kernel
theorem dX0_chooseByChance_193 : decode cX0_chooseByChance 193 = .ok (.iadd, 1) := by decide +kernel
theorem dX0_chooseByChance_194 : decode cX0_chooseByChance 194 = .ok (.aload_n 0, 1) := by decide +kernel
theorem dX0_chooseByChance_195 : decode cX0_chooseByChance 195 = .ok (.iconst 0, 1) := by decide +kernel
theorem dX0_chooseByChance_196 : decode cX0_chooseByChance 196 = .ok (.bipush 9, 2) := by decide +kernel
theorem dX0_chooseByChance_198 : decode cX0_chooseByChance 198 = .ok (.iload 6, 2) := by decide +kernel
theorem dX0_chooseByChance_200 : decode cX0_chooseByChance 200 = .ok (.iload 5, 2) := by decide +kernel
theorem dX0_chooseByChance_202 : decode cX0_chooseByChance 202 = .ok (.invokestatic 365, 3) := by decide +kernel
theorem dX0_chooseByChance_205 : decode cX0_chooseByChance 205 = .ok (.invokevirtual 359, 3) := by decide +kernel
theorem dX0_chooseByChance_208 : decode cX0_chooseByChance 208 = .ok (.iastore, 1) := by decide +kernel
theorem dX0_chooseByChance_209 : decode cX0_chooseByChance 209 = .ok (.iinc 6 1, 3) := by decide +kernel
theorem dX0_chooseByChance_212 : decode cX0_chooseByChance 212 = .ok (.goto (-39), 3) := by decide +kernel
theorem dX0_chooseByChance_215 : decode cX0_chooseByChance 215 = .ok (.aload_n 0, 1) := by decide +kernel
theorem dX0_chooseByChance_216 : decode cX0_chooseByChance 216 = .ok (.getfield 36, 3) := by decide +kernel
theorem dX0_chooseByChance_219 : decode cX0_chooseByChance 219 = .ok (.getfield 216, 3) := by decide +kernel
theorem dX0_chooseByChance_222 : decode cX0_chooseByChance 222 = .ok (.iload_n 2, 1) := by decide +kernel
theorem dX0_chooseByChance_223 : decode cX0_chooseByChance 223 = .ok (.iconst 5, 1) := by decide +kernel
theorem dX0_chooseByChance_224 : decode cX0_chooseByChance 224 = .ok (.iadd, 1) := by decide +kernel
theorem dX0_chooseByChance_225 : decode cX0_chooseByChance 225 = .ok (.aload_n 0, 1) := by decide +kernel
theorem dX0_chooseByChance_226 : decode cX0_chooseByChance 226 = .ok (.iconst (-1), 1) := by decide +kernel
theorem dX0_chooseByChance_227 : decode cX0_chooseByChance 227 = .ok (.iconst 4, 1) := by decide +kernel
theorem dX0_chooseByChance_228 : decode cX0_chooseByChance 228 = .ok (.iload 5, 2) := by decide +kernel
theorem dX0_chooseByChance_230 : decode cX0_chooseByChance 230 = .ok (.invokevirtual 359, 3) := by decide +kernel
theorem dX0_chooseByChance_233 : decode cX0_chooseByChance 233 = .ok (.iastore, 1) := by decide +kernel
theorem dX0_chooseByChance_234 : decode cX0_chooseByChance 234 = .ok (.goto 111, 3) := by decide +kernel
theorem dX0_chooseByChance_237 : decode cX0_chooseByChance 237 = .ok (.aload_n 0, 1) := by decide +kernel
theorem dX0_chooseByChance_238 : decode cX0_chooseByChance 238 = .ok (.getfield 36, 3) := by decide +kernel
theorem dX0_chooseByChance_241 : decode cX0_chooseByChance 241 = .ok (.getfield 216, 3) := by decide +kernel
theorem dX0_chooseByChance_244 : decode cX0_chooseByChance 244 = .ok (.iload_n 2, 1) := by decide +kernel
theorem dX0_chooseByChance_245 : decode cX0_chooseByChance 245 = .ok (.iconst 0, 1) := by decide +kernel
theorem dX0_chooseByChance_246 : decode cX0_chooseByChance 246 = .ok (.iadd, 1) := by decide +kernel
theorem dX0_chooseByChance_247 : decode cX0_chooseByChance 247 = .ok (.iconst 3, 1) := by decide +kernel
theorem dX0_chooseByChance_248 : decode cX0_chooseByChance 248 = .ok (.iastore, 1) := by decide +kernel
theorem dX0_chooseByChance_249 : decode cX0_chooseByChance 249 = .ok (.iload_n 3, 1) := by decide +kernel
theorem dX0_chooseByChance_250 : decode cX0_chooseByChance 250 = .ok (.ifCond .ne 52, 3) := by decide +kernel
theorem dX0_chooseByChance_253 : decode cX0_chooseByChance 253 = .ok (.iload 4, 2) := by decide +kernel
theorem dX0_chooseByChance_255 : decode cX0_chooseByChance 255 = .ok (.iconst 3, 1) := by decide +kernel
theorem dX0_chooseByChance_256 : decode cX0_chooseByChance 256 = .ok (.if_icmp .ne 7, 3) := by decide +kernel
theorem dX0_chooseByChance_259 : decode cX0_chooseByChance 259 = .ok (.iconst (-1), 1) := by decide +kernel
theorem dX0_chooseByChance_260 : decode cX0_chooseByChance 260 = .ok (.goto 37, 3) := by decide +kernel
theorem dX0_chooseByChance_263 : decode cX0_chooseByChance 263 = .ok (.iload 4, 2) := by decide +kernel
theorem dX0_chooseByChance_265 : decode cX0_chooseByChance 265 = .ok (.bipush 7, 2) := by decide +kernel
theorem dX0_chooseByChance_267 : decode cX0_chooseByChance 267 = .ok (.if_icmp .ge 7, 3) := by decide +kernel
theorem dX0_chooseByChance_270 : decode cX0_chooseByChance 270 = .ok (.iconst 0, 1) := by decide +kernel
theorem dX0_chooseByChance_271 : decode cX0_chooseByChance 271 = .ok (.goto 26, 3) := by decide +kernel
theorem dX0_chooseByChance_274 : decode cX0_chooseByChance 274 = .ok (.iload 4, 2) := by decide +kernel
theorem dX0_chooseByChance_276 : decode cX0_chooseByChance 276 = .ok (.bipush 9, 2) := by decide +kernel
theorem dX0_chooseByChance_278 : decode cX0_chooseByChance 278 = .ok (.if_icmp .ge 7, 3) := by decide +kernel
theorem dX0_chooseByChance_281 : decode cX0_chooseByChance 281 = .ok (.iconst 1, 1) := by decide +kernel
theorem dX0_chooseByChance_282 : decode cX0_chooseByChance 282 = .ok (.goto 15, 3) := by decide +kernel
theorem dX0_chooseByChance_285 : decode cX0_chooseByChance 285 = .ok (.iload 4, 2) := by decide +kernel
theorem dX0_chooseByChance_287 : decode cX0_chooseByChance 287 = .ok (.bipush 11, 2) := by decide +kernel
theorem dX0_chooseByChance_289 : decode cX0_chooseByChance 289 = .ok (.if_icmp .ge 7, 3) := by decide +kernel
theorem dX0_chooseByChance_292 : decode cX0_chooseByChance 292 = .ok (.iconst 2, 1) := by decide +kernel
theorem dX0_chooseByChance_293 : decode cX0_chooseByChance 293 = .ok (.goto 4, 3) := by decide +kernel
theorem dX0_chooseByChance_296 : decode cX0_chooseByChance 296 = .ok (.iconst 3, 1) := by decide +kernel
theorem dX0_chooseByChance_297 : decode cX0_chooseByChance 297 = .ok (.istore 6, 2) := by decide +kernel
theorem dX0_chooseByChance_299 : decode cX0_chooseByChance 299 = .ok (.goto 38, 3) := by decide +kernel
theorem dX0_chooseByChance_302 : decode cX0_chooseByChance 302 = .ok (.iload 4, 2) := by decide +kernel
theorem dX0_chooseByChance_304 : decode cX0_chooseByChance 304 = .ok (.iconst 5, 1) := by decide +kernel
theorem dX0_chooseByChance_305 : decode cX0_chooseByChance 305 = .ok (.if_icmp .ge 10, 3) := by decide +kernel
theorem dX0_chooseByChance_308 : decode cX0_chooseByChance 308 = .ok (.iload 4, 2) := by decide +kernel
theorem dX0_chooseByChance_310 : decode cX0_chooseByChance 310 = .ok (.iconst 4, 1) := by decide +kernel
theorem dX0_chooseByChance_311 : decode cX0_chooseByChance 311 = .ok (.isub, 1) := by decide +kernel
theorem dX0_chooseByChance_312 : decode cX0_chooseByChance 312 = .ok (.goto 23, 3) := by decide +kernel
theorem dX0_chooseByChance_315 : decode cX0_chooseByChance 315 = .ok (.iload 4, 2) := by decide +kernel
theorem dX0_chooseByChance_317 : decode cX0_chooseByChance 317 = .ok (.bipush 12, 2) := by decide +kernel
theorem dX0_chooseByChance_319 : decode cX0_chooseByChance 319 = .ok (.if_icmp .ge 14, 3) := by decide +kernel
theorem dX0_chooseByChance_322 : decode cX0_chooseByChance 322 = .ok (.iconst 1, 1) := by decide +kernel
theorem dX0_chooseByChance_323 : decode cX0_chooseByChance 323 = .ok (.aload_n 0, 1) := by decide +kernel
theorem dX0_chooseByChance_324 : decode cX0_chooseByChance 324 = .ok (.bipush 21, 2) := by decide +kernel
theorem dX0_chooseByChance_326 : decode cX0_chooseByChance 326 = .ok (.invokevirtual 334, 3) := by decide +kernel
theorem dX0_chooseByChance_329 : decode cX0_chooseByChance 329 = .ok (.iadd, 1) := by decide +kernel
theorem dX0_chooseByChance_330 : decode cX0_chooseByChance 330 = .ok (.goto 5, 3) := by decide +kernel
theorem dX0_chooseByChance_333 : decode cX0_chooseByChance 333 = .ok (.bipush 22, 2) := by decide +kernel
theorem dX0_chooseByChance_335 : decode cX0_chooseByChance 335 = .ok (.istore 6, 2) := by decide +kernel
theorem dX0_chooseByChance_337 : decode cX0_chooseByChance 337 = .ok (.aload_n 0, 1) := by decide +kernel
theorem dX0_chooseByChance_338 : decode cX0_chooseByChance 338 = .ok (.iload_n 1, 1) := by decide +kernel
theorem dX0_chooseByChance_339 : decode cX0_chooseByChance 339 = .ok (.iload_n 3, 1) := by decide +kernel
theorem dX0_chooseByChance_340 : decode cX0_chooseByChance 340 = .ok (.iload 6, 2) := by decide +kernel
theorem dX0_chooseByChance_342 : decode cX0_chooseByChance 342 = .ok (.invokevirtual 369, 3) := by decide +kernel
theorem dX0_chooseByChance_345 : decode cX0_chooseByChance 345 = .ok (.return_, 1) := by decide +kernel
def FX0_chooseByChance (G : GG) (M : DD) (a : Nat) (p0 : Int32) : Option (DD) :=
  ltt ((((8 : Int32)) * p0)) fun x1 =>
  dr G 9 ((M.2 a 3)) fun b2 =>
  dr G 3 ((M.2 b2 1)) fun b3 =>
  dr G 13 ((M.2 b3 0)) fun b4 =>
  chk (¬ (((1 : Int32)) < 0 ∨ G.2.2 b4 ≤ ((1 : Int32)).toNatClampNeg)) <|
  ltt (M.1 b4 ((1 : Int32)).toNatClampNeg) fun x5 =>
  bnd (FX0_draw G M a ((16 : Int32))) fun y6 =>
  if y6.2 = ((0 : Int32)) then (bnd (FX0_draw G y6.1 a ((8 : Int32))) fun y186 =>
  if y186.2 = ((0 : Int32)) then (dr G 9 ((y186.1.2 a 3)) fun b366 =>
  ltt ((x1 + ((0 : Int32)))) fun x367 =>
  dr G 13 ((y186.1.2 b366 6)) fun b368 =>
  chk (¬ (x367 < 0 ∨ G.2.2 b368 ≤ x367.toNatClampNeg)) <|
  ltt (uI y186.1 b368 x367.toNatClampNeg ((2 : Int32))) fun M369 =>
  some M369) else
  (dr G 9 ((y186.1.2 a 3)) fun b188 =>
  bnd (FX9_sides G y186.1 b188 p0) fun y189 =>
  bnd (if ((1 : Int32)) = ((1 : Int32)) then (dr G 9 ((y189.1.2 a 3)) fun b192 =>
  ltt ((x1 + ((0 : Int32)))) fun x193 =>
  dr G 13 ((y189.1.2 b192 6)) fun b194 =>
  chk (¬ (x193 < 0 ∨ G.2.2 b194 ≤ x193.toNatClampNeg)) <|
  ltt (uI y189.1 b194 x193.toNatClampNeg ((1 : Int32))) fun M195 =>
  dr G 9 ((M195.2 a 3)) fun b196 =>
  ltt ((((16 : Int32)) * p0)) fun x197 =>
  ltt ((((16 : Int32)) * p0)) fun x198 =>
  ltt ((x198 + ((16 : Int32)))) fun x199 =>
  bnd (FX0_drawMode G M195 a ((1 : Int32)) ((4 : Int32)) y189.2) fun y200 =>
  bnd (FJ7_fill_fda19 G y200.1 ((M195.2 b196 7)) x197 x199 y200.2) fun y201 =>
  dr G 9 ((y201.2 a 3)) fun b202 =>
  ltt ((x1 + ((5 : Int32)))) fun x203 =>
  bnd (FX0_drawMode G y201 a ((-1 : Int32)) ((4 : Int32)) y189.2) fun y204 =>
  dr G 13 ((y201.2 b202 6)) fun b205 =>
  chk (¬ (x203 < 0 ∨ G.2.2 b205 ≤ x203.toNatClampNeg)) <|
  ltt (uI y204.1 b205 x203.toNatClampNeg y204.2) fun M206 =>
  some (M206)) else
  (bnd (if x5 = ((2 : Int32)) then (bnd (if ((8 : Int32)) ≤ ((1 : Int32)) then (bnd (if ((1 : Int32)) = ((2 : Int32)) then (dr G 9 ((y189.1.2 a 3)) fun b283 =>
  ltt ((x1 + ((0 : Int32)))) fun x284 =>
  dr G 13 ((y189.1.2 b283 6)) fun b285 =>
  chk (¬ (x284 < 0 ∨ G.2.2 b285 ≤ x284.toNatClampNeg)) <|
  ltt (uI y189.1 b285 x284.toNatClampNeg ((0 : Int32))) fun M286 =>
  bnd (itr (fun (s288 : Int32 × DD) => ((if ((16 : Int32)) ≤ s288.1 then (some (.inr (s288.1, s288.2))) else
  (dr G 9 ((s288.2.2 a 3)) fun b297 =>
  ltt ((((16 : Int32)) * p0)) fun x298 =>
  ltt ((x298 + s288.1)) fun x299 =>
  bnd (FX9_sidesOf G s288.2 s288.1 y189.2) fun y300 =>
  bnd (FX0_drawMode G y300.1 a ((0 : Int32)) ((9 : Int32)) y300.2) fun y301 =>
  dr G 13 ((s288.2.2 b297 7)) fun b302 =>
  chk (¬ (x299 < 0 ∨ G.2.2 b302 ≤ x299.toNatClampNeg)) <|
  ltt (uI y301.1 b302 x299.toNatClampNeg y301.2) fun M303 =>
  ltt (s288.1 + (1 : Int32)) fun x304 =>
  some (.inl (x304, M303)))) : Option ((Int32 × DD) ⊕ (Int32 × DD)))) 1000000 ((0 : Int32), M286)) fun (y287 : Int32 × DD) =>
  dr G 9 ((y287.2.2 a 3)) fun b290 =>
  ltt ((x1 + ((5 : Int32)))) fun x291 =>
  bnd (FX0_drawMode G y287.2 a ((-1 : Int32)) ((4 : Int32)) y189.2) fun y292 =>
  dr G 13 ((y287.2.2 b290 6)) fun b293 =>
  chk (¬ (x291 < 0 ∨ G.2.2 b293 ≤ x291.toNatClampNeg)) <|
  ltt (uI y292.1 b293 x291.toNatClampNeg y292.2) fun M294 =>
  some (y287.1, M294)) else
  (bnd (if x5 = ((2 : Int32)) then (dr G 9 ((y189.1.2 a 3)) fun b329 =>
  ltt ((x1 + ((0 : Int32)))) fun x330 =>
  dr G 13 ((y189.1.2 b329 6)) fun b331 =>
  chk (¬ (x330 < 0 ∨ G.2.2 b331 ≤ x330.toNatClampNeg)) <|
  ltt (uI y189.1 b331 x330.toNatClampNeg ((0 : Int32))) fun M332 =>
  bnd (itr (fun (s334 : Int32 × DD) => ((if ((16 : Int32)) ≤ s334.1 then (some (.inr (s334.1, s334.2))) else
  (dr G 9 ((s334.2.2 a 3)) fun b343 =>
  ltt ((((16 : Int32)) * p0)) fun x344 =>
  ltt ((x344 + s334.1)) fun x345 =>
  bnd (FX9_sidesOf G s334.2 s334.1 y189.2) fun y346 =>
  bnd (FX0_drawMode G y346.1 a ((0 : Int32)) ((9 : Int32)) y346.2) fun y347 =>
  dr G 13 ((s334.2.2 b343 7)) fun b348 =>
  chk (¬ (x345 < 0 ∨ G.2.2 b348 ≤ x345.toNatClampNeg)) <|
  ltt (uI y347.1 b348 x345.toNatClampNeg y347.2) fun M349 =>
  ltt (s334.1 + (1 : Int32)) fun x350 =>
  some (.inl (x350, M349)))) : Option ((Int32 × DD) ⊕ (Int32 × DD)))) 1000000 ((0 : Int32), M332)) fun (y333 : Int32 × DD) =>
  dr G 9 ((y333.2.2 a 3)) fun b336 =>
  ltt ((x1 + ((5 : Int32)))) fun x337 =>
  bnd (FX0_drawMode G y333.2 a ((-1 : Int32)) ((4 : Int32)) y189.2) fun y338 =>
  dr G 13 ((y333.2.2 b336 6)) fun b339 =>
  chk (¬ (x337 < 0 ∨ G.2.2 b339 ≤ x337.toNatClampNeg)) <|
  ltt (uI y338.1 b339 x337.toNatClampNeg y338.2) fun M340 =>
  some (y333.1, M340)) else
  (dr G 9 ((y189.1.2 a 3)) fun b307 =>
  ltt ((x1 + ((0 : Int32)))) fun x308 =>
  dr G 13 ((y189.1.2 b307 6)) fun b309 =>
  chk (¬ (x308 < 0 ∨ G.2.2 b309 ≤ x308.toNatClampNeg)) <|
  ltt (uI y189.1 b309 x308.toNatClampNeg ((3 : Int32))) fun M310 =>
  bnd (if x5 = ((0 : Int32)) then (bnd (if ((1 : Int32)) = ((3 : Int32)) then (some ((-1 : Int32))) else
  (bnd (if ((7 : Int32)) ≤ ((1 : Int32)) then (bnd (if ((9 : Int32)) ≤ ((1 : Int32)) then (bnd (if ((11 : Int32)) ≤ ((1 : Int32)) then (some ((3 : Int32))) else
  (some ((2 : Int32)))) fun (y327 : Int32) =>
  some (y327)) else
  (some ((1 : Int32)))) fun (y325 : Int32) =>
  some (y325)) else
  (some ((0 : Int32)))) fun (y323 : Int32) =>
  some (y323))) fun (y321 : Int32) =>
  some (y321, M310)) else
  (bnd (if ((5 : Int32)) ≤ ((1 : Int32)) then (bnd (if ((12 : Int32)) ≤ ((1 : Int32)) then (some ((22 : Int32), M310)) else
  (bnd (FX0_draw G M310 a ((21 : Int32))) fun y318 =>
  ltt ((((1 : Int32)) + y318.2)) fun x319 =>
  some (x319, y318.1))) fun (y316 : Int32 × DD) =>
  some (y316.1, y316.2)) else
  (ltt ((((1 : Int32)) - ((4 : Int32)))) fun x320 =>
  some (x320, M310))) fun (y314 : Int32 × DD) =>
  some (y314.1, y314.2))) fun (y311 : Int32 × DD) =>
  bnd (FX0_drawByLists G y311.2 a p0 x5 y311.1) fun y312 =>
  some (y311.1, y312))) fun (y305 : Int32 × DD) =>
  some (y305.1, y305.2))) fun (y281 : Int32 × DD) =>
  some (y281.2)) else
  (dr G 9 ((y189.1.2 a 3)) fun b351 =>
  ltt ((x1 + ((0 : Int32)))) fun x352 =>
  dr G 13 ((y189.1.2 b351 6)) fun b353 =>
  chk (¬ (x352 < 0 ∨ G.2.2 b353 ≤ x352.toNatClampNeg)) <|
  ltt (uI y189.1 b353 x352.toNatClampNeg ((1 : Int32))) fun M354 =>
  dr G 9 ((M354.2 a 3)) fun b355 =>
  ltt ((((16 : Int32)) * p0)) fun x356 =>
  ltt ((((16 : Int32)) * p0)) fun x357 =>
  ltt ((x357 + ((16 : Int32)))) fun x358 =>
  bnd (FX0_drawMode G M354 a ((1 : Int32)) ((4 : Int32)) y189.2) fun y359 =>
  bnd (FJ7_fill_fda19 G y359.1 ((M354.2 b355 7)) x356 x358 y359.2) fun y360 =>
  dr G 9 ((y360.2 a 3)) fun b361 =>
  ltt ((x1 + ((5 : Int32)))) fun x362 =>
  bnd (FX0_drawMode G y360 a ((-1 : Int32)) ((4 : Int32)) y189.2) fun y363 =>
  dr G 13 ((y360.2 b361 6)) fun b364 =>
  chk (¬ (x362 < 0 ∨ G.2.2 b364 ≤ x362.toNatClampNeg)) <|
  ltt (uI y363.1 b364 x362.toNatClampNeg y363.2) fun M365 =>
  some (M365))) fun (y279 : DD) =>
  some (y279)) else
  (bnd (if ((1 : Int32)) = ((2 : Int32)) then (dr G 9 ((y189.1.2 a 3)) fun b211 =>
  ltt ((x1 + ((0 : Int32)))) fun x212 =>
  dr G 13 ((y189.1.2 b211 6)) fun b213 =>
  chk (¬ (x212 < 0 ∨ G.2.2 b213 ≤ x212.toNatClampNeg)) <|
  ltt (uI y189.1 b213 x212.toNatClampNeg ((0 : Int32))) fun M214 =>
  bnd (itr (fun (s216 : Int32 × DD) => ((if ((16 : Int32)) ≤ s216.1 then (some (.inr (s216.1, s216.2))) else
  (dr G 9 ((s216.2.2 a 3)) fun b225 =>
  ltt ((((16 : Int32)) * p0)) fun x226 =>
  ltt ((x226 + s216.1)) fun x227 =>
  bnd (FX9_sidesOf G s216.2 s216.1 y189.2) fun y228 =>
  bnd (FX0_drawMode G y228.1 a ((0 : Int32)) ((9 : Int32)) y228.2) fun y229 =>
  dr G 13 ((s216.2.2 b225 7)) fun b230 =>
  chk (¬ (x227 < 0 ∨ G.2.2 b230 ≤ x227.toNatClampNeg)) <|
  ltt (uI y229.1 b230 x227.toNatClampNeg y229.2) fun M231 =>
  ltt (s216.1 + (1 : Int32)) fun x232 =>
  some (.inl (x232, M231)))) : Option ((Int32 × DD) ⊕ (Int32 × DD)))) 1000000 ((0 : Int32), M214)) fun (y215 : Int32 × DD) =>
  dr G 9 ((y215.2.2 a 3)) fun b218 =>
  ltt ((x1 + ((5 : Int32)))) fun x219 =>
  bnd (FX0_drawMode G y215.2 a ((-1 : Int32)) ((4 : Int32)) y189.2) fun y220 =>
  dr G 13 ((y215.2.2 b218 6)) fun b221 =>
  chk (¬ (x219 < 0 ∨ G.2.2 b221 ≤ x219.toNatClampNeg)) <|
  ltt (uI y220.1 b221 x219.toNatClampNeg y220.2) fun M222 =>
  some (y215.1, M222)) else
  (bnd (if x5 = ((2 : Int32)) then (dr G 9 ((y189.1.2 a 3)) fun b257 =>
  ltt ((x1 + ((0 : Int32)))) fun x258 =>
  dr G 13 ((y189.1.2 b257 6)) fun b259 =>
  chk (¬ (x258 < 0 ∨ G.2.2 b259 ≤ x258.toNatClampNeg)) <|
  ltt (uI y189.1 b259 x258.toNatClampNeg ((0 : Int32))) fun M260 =>
  bnd (itr (fun (s262 : Int32 × DD) => ((if ((16 : Int32)) ≤ s262.1 then (some (.inr (s262.1, s262.2))) else
  (dr G 9 ((s262.2.2 a 3)) fun b271 =>
  ltt ((((16 : Int32)) * p0)) fun x272 =>
  ltt ((x272 + s262.1)) fun x273 =>
  bnd (FX9_sidesOf G s262.2 s262.1 y189.2) fun y274 =>
  bnd (FX0_drawMode G y274.1 a ((0 : Int32)) ((9 : Int32)) y274.2) fun y275 =>
  dr G 13 ((s262.2.2 b271 7)) fun b276 =>
  chk (¬ (x273 < 0 ∨ G.2.2 b276 ≤ x273.toNatClampNeg)) <|
  ltt (uI y275.1 b276 x273.toNatClampNeg y275.2) fun M277 =>
  ltt (s262.1 + (1 : Int32)) fun x278 =>
  some (.inl (x278, M277)))) : Option ((Int32 × DD) ⊕ (Int32 × DD)))) 1000000 ((0 : Int32), M260)) fun (y261 : Int32 × DD) =>
  dr G 9 ((y261.2.2 a 3)) fun b264 =>
  ltt ((x1 + ((5 : Int32)))) fun x265 =>
  bnd (FX0_drawMode G y261.2 a ((-1 : Int32)) ((4 : Int32)) y189.2) fun y266 =>
  dr G 13 ((y261.2.2 b264 6)) fun b267 =>
  chk (¬ (x265 < 0 ∨ G.2.2 b267 ≤ x265.toNatClampNeg)) <|
  ltt (uI y266.1 b267 x265.toNatClampNeg y266.2) fun M268 =>
  some (y261.1, M268)) else
  (dr G 9 ((y189.1.2 a 3)) fun b235 =>
  ltt ((x1 + ((0 : Int32)))) fun x236 =>
  dr G 13 ((y189.1.2 b235 6)) fun b237 =>
  chk (¬ (x236 < 0 ∨ G.2.2 b237 ≤ x236.toNatClampNeg)) <|
  ltt (uI y189.1 b237 x236.toNatClampNeg ((3 : Int32))) fun M238 =>
  bnd (if x5 = ((0 : Int32)) then (bnd (if ((1 : Int32)) = ((3 : Int32)) then (some ((-1 : Int32))) else
  (bnd (if ((7 : Int32)) ≤ ((1 : Int32)) then (bnd (if ((9 : Int32)) ≤ ((1 : Int32)) then (bnd (if ((11 : Int32)) ≤ ((1 : Int32)) then (some ((3 : Int32))) else
  (some ((2 : Int32)))) fun (y255 : Int32) =>
  some (y255)) else
  (some ((1 : Int32)))) fun (y253 : Int32) =>
  some (y253)) else
  (some ((0 : Int32)))) fun (y251 : Int32) =>
  some (y251))) fun (y249 : Int32) =>
  some (y249, M238)) else
  (bnd (if ((5 : Int32)) ≤ ((1 : Int32)) then (bnd (if ((12 : Int32)) ≤ ((1 : Int32)) then (some ((22 : Int32), M238)) else
  (bnd (FX0_draw G M238 a ((21 : Int32))) fun y246 =>
  ltt ((((1 : Int32)) + y246.2)) fun x247 =>
  some (x247, y246.1))) fun (y244 : Int32 × DD) =>
  some (y244.1, y244.2)) else
  (ltt ((((1 : Int32)) - ((4 : Int32)))) fun x248 =>
  some (x248, M238))) fun (y242 : Int32 × DD) =>
  some (y242.1, y242.2))) fun (y239 : Int32 × DD) =>
  bnd (FX0_drawByLists G y239.2 a p0 x5 y239.1) fun y240 =>
  some (y239.1, y240))) fun (y233 : Int32 × DD) =>
  some (y233.1, y233.2))) fun (y209 : Int32 × DD) =>
  some (y209.2))) fun (y207 : DD) =>
  some (y207))) fun (y190 : DD) =>
  some y190)) else
  (dr G 9 ((y6.1.2 a 3)) fun b8 =>
  bnd (FX9_sides G y6.1 b8 p0) fun y9 =>
  bnd (if y6.2 = ((1 : Int32)) then (dr G 9 ((y9.1.2 a 3)) fun b12 =>
  ltt ((x1 + ((0 : Int32)))) fun x13 =>
  dr G 13 ((y9.1.2 b12 6)) fun b14 =>
  chk (¬ (x13 < 0 ∨ G.2.2 b14 ≤ x13.toNatClampNeg)) <|
  ltt (uI y9.1 b14 x13.toNatClampNeg ((1 : Int32))) fun M15 =>
  dr G 9 ((M15.2 a 3)) fun b16 =>
  ltt ((((16 : Int32)) * p0)) fun x17 =>
  ltt ((((16 : Int32)) * p0)) fun x18 =>
  ltt ((x18 + ((16 : Int32)))) fun x19 =>
  bnd (FX0_drawMode G M15 a ((1 : Int32)) ((4 : Int32)) y9.2) fun y20 =>
  bnd (FJ7_fill_fda19 G y20.1 ((M15.2 b16 7)) x17 x19 y20.2) fun y21 =>
  dr G 9 ((y21.2 a 3)) fun b22 =>
  ltt ((x1 + ((5 : Int32)))) fun x23 =>
  bnd (FX0_drawMode G y21 a ((-1 : Int32)) ((4 : Int32)) y9.2) fun y24 =>
  dr G 13 ((y21.2 b22 6)) fun b25 =>
  chk (¬ (x23 < 0 ∨ G.2.2 b25 ≤ x23.toNatClampNeg)) <|
  ltt (uI y24.1 b25 x23.toNatClampNeg y24.2) fun M26 =>
  some (M26)) else
  (bnd (if x5 = ((2 : Int32)) then (bnd (if ((8 : Int32)) ≤ y6.2 then (bnd (if y6.2 = ((2 : Int32)) then (dr G 9 ((y9.1.2 a 3)) fun b103 =>
  ltt ((x1 + ((0 : Int32)))) fun x104 =>
  dr G 13 ((y9.1.2 b103 6)) fun b105 =>
  chk (¬ (x104 < 0 ∨ G.2.2 b105 ≤ x104.toNatClampNeg)) <|
  ltt (uI y9.1 b105 x104.toNatClampNeg ((0 : Int32))) fun M106 =>
  bnd (itr (fun (s108 : Int32 × DD) => ((if ((16 : Int32)) ≤ s108.1 then (some (.inr (s108.1, s108.2))) else
  (dr G 9 ((s108.2.2 a 3)) fun b117 =>
  ltt ((((16 : Int32)) * p0)) fun x118 =>
  ltt ((x118 + s108.1)) fun x119 =>
  bnd (FX9_sidesOf G s108.2 s108.1 y9.2) fun y120 =>
  bnd (FX0_drawMode G y120.1 a ((0 : Int32)) ((9 : Int32)) y120.2) fun y121 =>
  dr G 13 ((s108.2.2 b117 7)) fun b122 =>
  chk (¬ (x119 < 0 ∨ G.2.2 b122 ≤ x119.toNatClampNeg)) <|
  ltt (uI y121.1 b122 x119.toNatClampNeg y121.2) fun M123 =>
  ltt (s108.1 + (1 : Int32)) fun x124 =>
  some (.inl (x124, M123)))) : Option ((Int32 × DD) ⊕ (Int32 × DD)))) 1000000 ((0 : Int32), M106)) fun (y107 : Int32 × DD) =>
  dr G 9 ((y107.2.2 a 3)) fun b110 =>
  ltt ((x1 + ((5 : Int32)))) fun x111 =>
  bnd (FX0_drawMode G y107.2 a ((-1 : Int32)) ((4 : Int32)) y9.2) fun y112 =>
  dr G 13 ((y107.2.2 b110 6)) fun b113 =>
  chk (¬ (x111 < 0 ∨ G.2.2 b113 ≤ x111.toNatClampNeg)) <|
  ltt (uI y112.1 b113 x111.toNatClampNeg y112.2) fun M114 =>
  some (y107.1, M114)) else
  (bnd (if x5 = ((2 : Int32)) then (dr G 9 ((y9.1.2 a 3)) fun b149 =>
  ltt ((x1 + ((0 : Int32)))) fun x150 =>
  dr G 13 ((y9.1.2 b149 6)) fun b151 =>
  chk (¬ (x150 < 0 ∨ G.2.2 b151 ≤ x150.toNatClampNeg)) <|
  ltt (uI y9.1 b151 x150.toNatClampNeg ((0 : Int32))) fun M152 =>
  bnd (itr (fun (s154 : Int32 × DD) => ((if ((16 : Int32)) ≤ s154.1 then (some (.inr (s154.1, s154.2))) else
  (dr G 9 ((s154.2.2 a 3)) fun b163 =>
  ltt ((((16 : Int32)) * p0)) fun x164 =>
  ltt ((x164 + s154.1)) fun x165 =>
  bnd (FX9_sidesOf G s154.2 s154.1 y9.2) fun y166 =>
  bnd (FX0_drawMode G y166.1 a ((0 : Int32)) ((9 : Int32)) y166.2) fun y167 =>
  dr G 13 ((s154.2.2 b163 7)) fun b168 =>
  chk (¬ (x165 < 0 ∨ G.2.2 b168 ≤ x165.toNatClampNeg)) <|
  ltt (uI y167.1 b168 x165.toNatClampNeg y167.2) fun M169 =>
  ltt (s154.1 + (1 : Int32)) fun x170 =>
  some (.inl (x170, M169)))) : Option ((Int32 × DD) ⊕ (Int32 × DD)))) 1000000 ((0 : Int32), M152)) fun (y153 : Int32 × DD) =>
  dr G 9 ((y153.2.2 a 3)) fun b156 =>
  ltt ((x1 + ((5 : Int32)))) fun x157 =>
  bnd (FX0_drawMode G y153.2 a ((-1 : Int32)) ((4 : Int32)) y9.2) fun y158 =>
  dr G 13 ((y153.2.2 b156 6)) fun b159 =>
  chk (¬ (x157 < 0 ∨ G.2.2 b159 ≤ x157.toNatClampNeg)) <|
  ltt (uI y158.1 b159 x157.toNatClampNeg y158.2) fun M160 =>
  some (y153.1, M160)) else
  (dr G 9 ((y9.1.2 a 3)) fun b127 =>
  ltt ((x1 + ((0 : Int32)))) fun x128 =>
  dr G 13 ((y9.1.2 b127 6)) fun b129 =>
  chk (¬ (x128 < 0 ∨ G.2.2 b129 ≤ x128.toNatClampNeg)) <|
  ltt (uI y9.1 b129 x128.toNatClampNeg ((3 : Int32))) fun M130 =>
  bnd (if x5 = ((0 : Int32)) then (bnd (if y6.2 = ((3 : Int32)) then (some ((-1 : Int32))) else
  (bnd (if ((7 : Int32)) ≤ y6.2 then (bnd (if ((9 : Int32)) ≤ y6.2 then (bnd (if ((11 : Int32)) ≤ y6.2 then (some ((3 : Int32))) else
  (some ((2 : Int32)))) fun (y147 : Int32) =>
  some (y147)) else
  (some ((1 : Int32)))) fun (y145 : Int32) =>
  some (y145)) else
  (some ((0 : Int32)))) fun (y143 : Int32) =>
  some (y143))) fun (y141 : Int32) =>
  some (y141, M130)) else
  (bnd (if ((5 : Int32)) ≤ y6.2 then (bnd (if ((12 : Int32)) ≤ y6.2 then (some ((22 : Int32), M130)) else
  (bnd (FX0_draw G M130 a ((21 : Int32))) fun y138 =>
  ltt ((((1 : Int32)) + y138.2)) fun x139 =>
  some (x139, y138.1))) fun (y136 : Int32 × DD) =>
  some (y136.1, y136.2)) else
  (ltt ((y6.2 - ((4 : Int32)))) fun x140 =>
  some (x140, M130))) fun (y134 : Int32 × DD) =>
  some (y134.1, y134.2))) fun (y131 : Int32 × DD) =>
  bnd (FX0_drawByLists G y131.2 a p0 x5 y131.1) fun y132 =>
  some (y131.1, y132))) fun (y125 : Int32 × DD) =>
  some (y125.1, y125.2))) fun (y101 : Int32 × DD) =>
  some (y101.2)) else
  (dr G 9 ((y9.1.2 a 3)) fun b171 =>
  ltt ((x1 + ((0 : Int32)))) fun x172 =>
  dr G 13 ((y9.1.2 b171 6)) fun b173 =>
  chk (¬ (x172 < 0 ∨ G.2.2 b173 ≤ x172.toNatClampNeg)) <|
  ltt (uI y9.1 b173 x172.toNatClampNeg ((1 : Int32))) fun M174 =>
  dr G 9 ((M174.2 a 3)) fun b175 =>
  ltt ((((16 : Int32)) * p0)) fun x176 =>
  ltt ((((16 : Int32)) * p0)) fun x177 =>
  ltt ((x177 + ((16 : Int32)))) fun x178 =>
  bnd (FX0_drawMode G M174 a ((1 : Int32)) ((4 : Int32)) y9.2) fun y179 =>
  bnd (FJ7_fill_fda19 G y179.1 ((M174.2 b175 7)) x176 x178 y179.2) fun y180 =>
  dr G 9 ((y180.2 a 3)) fun b181 =>
  ltt ((x1 + ((5 : Int32)))) fun x182 =>
  bnd (FX0_drawMode G y180 a ((-1 : Int32)) ((4 : Int32)) y9.2) fun y183 =>
  dr G 13 ((y180.2 b181 6)) fun b184 =>
  chk (¬ (x182 < 0 ∨ G.2.2 b184 ≤ x182.toNatClampNeg)) <|
  ltt (uI y183.1 b184 x182.toNatClampNeg y183.2) fun M185 =>
  some (M185))) fun (y99 : DD) =>
  some (y99)) else
  (bnd (if y6.2 = ((2 : Int32)) then (dr G 9 ((y9.1.2 a 3)) fun b31 =>
  ltt ((x1 + ((0 : Int32)))) fun x32 =>
  dr G 13 ((y9.1.2 b31 6)) fun b33 =>
  chk (¬ (x32 < 0 ∨ G.2.2 b33 ≤ x32.toNatClampNeg)) <|
  ltt (uI y9.1 b33 x32.toNatClampNeg ((0 : Int32))) fun M34 =>
  bnd (itr (fun (s36 : Int32 × DD) => ((if ((16 : Int32)) ≤ s36.1 then (some (.inr (s36.1, s36.2))) else
  (dr G 9 ((s36.2.2 a 3)) fun b45 =>
  ltt ((((16 : Int32)) * p0)) fun x46 =>
  ltt ((x46 + s36.1)) fun x47 =>
  bnd (FX9_sidesOf G s36.2 s36.1 y9.2) fun y48 =>
  bnd (FX0_drawMode G y48.1 a ((0 : Int32)) ((9 : Int32)) y48.2) fun y49 =>
  dr G 13 ((s36.2.2 b45 7)) fun b50 =>
  chk (¬ (x47 < 0 ∨ G.2.2 b50 ≤ x47.toNatClampNeg)) <|
  ltt (uI y49.1 b50 x47.toNatClampNeg y49.2) fun M51 =>
  ltt (s36.1 + (1 : Int32)) fun x52 =>
  some (.inl (x52, M51)))) : Option ((Int32 × DD) ⊕ (Int32 × DD)))) 1000000 ((0 : Int32), M34)) fun (y35 : Int32 × DD) =>
  dr G 9 ((y35.2.2 a 3)) fun b38 =>
  ltt ((x1 + ((5 : Int32)))) fun x39 =>
  bnd (FX0_drawMode G y35.2 a ((-1 : Int32)) ((4 : Int32)) y9.2) fun y40 =>
  dr G 13 ((y35.2.2 b38 6)) fun b41 =>
  chk (¬ (x39 < 0 ∨ G.2.2 b41 ≤ x39.toNatClampNeg)) <|
  ltt (uI y40.1 b41 x39.toNatClampNeg y40.2) fun M42 =>
  some (y35.1, M42)) else
  (bnd (if x5 = ((2 : Int32)) then (dr G 9 ((y9.1.2 a 3)) fun b77 =>
  ltt ((x1 + ((0 : Int32)))) fun x78 =>
  dr G 13 ((y9.1.2 b77 6)) fun b79 =>
  chk (¬ (x78 < 0 ∨ G.2.2 b79 ≤ x78.toNatClampNeg)) <|
  ltt (uI y9.1 b79 x78.toNatClampNeg ((0 : Int32))) fun M80 =>
  bnd (itr (fun (s82 : Int32 × DD) => ((if ((16 : Int32)) ≤ s82.1 then (some (.inr (s82.1, s82.2))) else
  (dr G 9 ((s82.2.2 a 3)) fun b91 =>
  ltt ((((16 : Int32)) * p0)) fun x92 =>
  ltt ((x92 + s82.1)) fun x93 =>
  bnd (FX9_sidesOf G s82.2 s82.1 y9.2) fun y94 =>
  bnd (FX0_drawMode G y94.1 a ((0 : Int32)) ((9 : Int32)) y94.2) fun y95 =>
  dr G 13 ((s82.2.2 b91 7)) fun b96 =>
  chk (¬ (x93 < 0 ∨ G.2.2 b96 ≤ x93.toNatClampNeg)) <|
  ltt (uI y95.1 b96 x93.toNatClampNeg y95.2) fun M97 =>
  ltt (s82.1 + (1 : Int32)) fun x98 =>
  some (.inl (x98, M97)))) : Option ((Int32 × DD) ⊕ (Int32 × DD)))) 1000000 ((0 : Int32), M80)) fun (y81 : Int32 × DD) =>
  dr G 9 ((y81.2.2 a 3)) fun b84 =>
  ltt ((x1 + ((5 : Int32)))) fun x85 =>
  bnd (FX0_drawMode G y81.2 a ((-1 : Int32)) ((4 : Int32)) y9.2) fun y86 =>
  dr G 13 ((y81.2.2 b84 6)) fun b87 =>
  chk (¬ (x85 < 0 ∨ G.2.2 b87 ≤ x85.toNatClampNeg)) <|
  ltt (uI y86.1 b87 x85.toNatClampNeg y86.2) fun M88 =>
  some (y81.1, M88)) else
  (dr G 9 ((y9.1.2 a 3)) fun b55 =>
  ltt ((x1 + ((0 : Int32)))) fun x56 =>
  dr G 13 ((y9.1.2 b55 6)) fun b57 =>
  chk (¬ (x56 < 0 ∨ G.2.2 b57 ≤ x56.toNatClampNeg)) <|
  ltt (uI y9.1 b57 x56.toNatClampNeg ((3 : Int32))) fun M58 =>
  bnd (if x5 = ((0 : Int32)) then (bnd (if y6.2 = ((3 : Int32)) then (some ((-1 : Int32))) else
  (bnd (if ((7 : Int32)) ≤ y6.2 then (bnd (if ((9 : Int32)) ≤ y6.2 then (bnd (if ((11 : Int32)) ≤ y6.2 then (some ((3 : Int32))) else
  (some ((2 : Int32)))) fun (y75 : Int32) =>
  some (y75)) else
  (some ((1 : Int32)))) fun (y73 : Int32) =>
  some (y73)) else
  (some ((0 : Int32)))) fun (y71 : Int32) =>
  some (y71))) fun (y69 : Int32) =>
  some (y69, M58)) else
  (bnd (if ((5 : Int32)) ≤ y6.2 then (bnd (if ((12 : Int32)) ≤ y6.2 then (some ((22 : Int32), M58)) else
  (bnd (FX0_draw G M58 a ((21 : Int32))) fun y66 =>
  ltt ((((1 : Int32)) + y66.2)) fun x67 =>
  some (x67, y66.1))) fun (y64 : Int32 × DD) =>
  some (y64.1, y64.2)) else
  (ltt ((y6.2 - ((4 : Int32)))) fun x68 =>
  some (x68, M58))) fun (y62 : Int32 × DD) =>
  some (y62.1, y62.2))) fun (y59 : Int32 × DD) =>
  bnd (FX0_drawByLists G y59.2 a p0 x5 y59.1) fun y60 =>
  some (y59.1, y60))) fun (y53 : Int32 × DD) =>
  some (y53.1, y53.2))) fun (y29 : Int32 × DD) =>
  some (y29.2))) fun (y27 : DD) =>
  some (y27))) fun (y10 : DD) =>
  some y10)
set_option maxHeartbeats 4000000 in
set_option maxRecDepth 100000 in
theorem kX0_chooseByChance (l : Launch) (D : va_G) (ct : CT) (ad : Nat → Nat) (Z : Nat → Nat) (G : GG) (M : DD) (sz : Nat) (a : Nat) (p0 : Int32) (y : DD) (hc : a < G.1) (hk : G.2.1 a = 0) (hF : FX0_chooseByChance G M a p0 = some y) : Met l yX0_chooseByChance wuX0_chooseByChance ({ frames := 6, cells := 0, slots := 0, locals := 162 }) (va_Pc [.ref (ad a), .int p0] (kB D ct ad Z G M sz)) (va_Qv (fun (_ : Unit) => True) (fun _ t => kE D ct ad G (wA ad G sz) y t) (wA ad G sz)) 0 0 (wA ad G sz) := by
  refine Met.ofW (cc := cX0_chooseByChance) (maxL := 7) (ret := none) (by decide) rfl ?_
  intro p e s m args below meth c s₁ B hml hv
  obtain ⟨rfl, hsz, hP, hK, hD0, hZ, hN⟩ := hv
  have hx := B.exec
  have hb := B.bytes
  have hr := B.returns
  have hts := atoms_spec (ws := wuX0_chooseByChance) B.pre
  have hown : s.vm.findClass RX0 = some m.cls := findClass_of_methodNamed B.named
  have hlocks := B.notSynchronized
  subst hsz
  have hD := wD_self (sz := s.heap.size) hD0
  have hA9 : ∀ q, s.heap.size ≤ q → wA ad G s.heap.size q := fun q h => Or.inr h
  generalize hAe : wA ad G s.heap.size = A at hD hA9 hZ ⊢
  have hS : va_S A s.heap s.heap [] := va_S.rf
  have hl := lv_entry ([.ref (ad a), .int p0]) (n := 7) (Nat.le_of_ble_eq_true rfl)
  rw [lg_entry_eq]
  generalize (lg_sl ([.ref (ad a), .int p0]) ++ List.replicate (7 - (lg_sl ([.ref (ad a), .int p0])).length) Slot.unset).toArray = ls at hl ⊢
  have hl : lv_has ls 7 [(0, .ref (ad a)), (1, .int p0)] := hl
  unfold FX0_chooseByChance at hF
  refine lv_bipush (v := (8 : Int32)) hx hb dX0_chooseByChance_0 (by decide) ?_
  refine lv_iload_n hx hb dX0_chooseByChance_2 rfl (lv_at hl 1 rfl) ?_
  refine lv_imul hx hb dX0_chooseByChance_3 ?_
  obtain ⟨x1, ex1, hF⟩ := ltt_some hF
  refine lv_topi (fun zx1 ezx1 => ?_)
  obtain rfl : x1 = zx1 := ex1.trans ezx1.symm
  refine lv_istore_n (lv' := [(2, .int x1), (0, .ref (ad a)), (1, .int p0)]) hx hb dX0_chooseByChance_4 rfl hl (by decide) rfl (fun ls hl => ?_)
  refine lv_aload_n hx hb dX0_chooseByChance_5 rfl (lv_at hl 1 rfl) ?_
  refine va_get (D := D) (ci := 0) (v := va_re ad (M.2 a 3)) (C := RX0) (T := TX0) (N := 21) hx hb hts (mus hf_X0) hown hK hP a (wld_o ct ad G M hc hk (by decide)) rfl 3 (by decide) (hts (.fieldLink RX0 36 "VideoSuite$Coder" "work" "LVideoSuite$Work;") (mu mw_817)) (fun _ h9 => h9) rfl dX0_chooseByChance_6 ?_
  obtain ⟨b2, ho2, hc2, hk2, hF⟩ := dr_some hF
  refine W_st (st' := [.ref (ad b2)]) (by rw [va_some ho2]) ?_
  refine va_get (D := D) (ci := 9) (v := va_re ad (M.2 b2 1)) (C := RX9) (T := TX9) (N := 20) hx hb hts (mus hf_X9) hown hK hP b2 (wld_o ct ad G M hc2 hk2 (by decide)) rfl 1 (by decide) (hts (.fieldLink RX0 81 "VideoSuite$Work" "head" "LVideoSuite$Header;") (mu mw_425)) (fun _ h9 => h9) rfl dX0_chooseByChance_9 ?_
  obtain ⟨b3, ho3, hc3, hk3, hF⟩ := dr_some hF
  refine W_st (st' := [.ref (ad b3)]) (by rw [va_some ho3]) ?_
  refine va_get (D := D) (ci := 3) (v := va_re ad (M.2 b3 0)) (C := RX3) (T := TX3) (N := 4) hx hb hts (mus hf_X3) hown hK hP b3 (wld_o ct ad G M hc3 hk3 (by decide)) rfl 0 (by decide) (hts (.fieldLink RX0 252 "VideoSuite$Header" "v" "[I") (mu mw_620)) (fun _ h9 => h9) rfl dX0_chooseByChance_12 ?_
  refine lv_iconst (v := (1 : Int32)) hx hb dX0_chooseByChance_15 (by decide) ?_
  obtain ⟨b4, ho4, hc4, hk4, hF⟩ := dr_some hF
  refine W_st (st' := [.int (1 : Int32), .ref (ad b4)]) (by rw [va_some ho4]) ?_
  obtain ⟨hvc, hF⟩ := chk_some hF
  refine va_iald hx hb hK hP b4 1 (wld_i ct ad G M hc4 hk4) rfl hvc dX0_chooseByChance_16 ?_
  obtain ⟨x5, ex5, hF⟩ := ltt_some hF
  refine lv_topi (fun zx5 ezx5 => ?_)
  obtain rfl : x5 = zx5 := ex5.trans ezx5.symm
  refine lv_istore_n (lv' := [(3, .int x5), (2, .int x1), (0, .ref (ad a)), (1, .int p0)]) hx hb dX0_chooseByChance_17 rfl hl (by decide) rfl (fun ls hl => ?_)
  refine lv_aload_n hx hb dX0_chooseByChance_18 rfl (lv_at hl 2 rfl) ?_
  refine lv_bipush (v := (16 : Int32)) hx hb dX0_chooseByChance_19 (by decide) ?_
  obtain ⟨y6, hy6, hF⟩ := bnd_some hF
  have hf9 := wA_in hD hA9 hS
  refine va_calli (va_runV (As := [.int (16 : Int32)]) (rest := []) ⟨hx, hb, hml, hown, hts⟩ (kX0_draw l D ct ad Z G M s.heap.size a ((16 : Int32)) y6 hc hk hy6) (cwV 1 hts gX0_chooseByChance_X0_draw rfl rfl rfl (by decide +kernel) ⟨Nat.le_of_ble_eq_true rfl, Nat.le_of_ble_eq_true rfl⟩) ⟨fun a U g mk q => by obtain ⟨q0, q1, qP, qK, qD, qZ, qN⟩ := q; exact ⟨q0, q1, qP, va_K.moved (u := U) (U := U.calling g mk a) (Vm.Alike.refl U.vm) qK, qD, sF.moved (u := U) (U := U.calling g mk a) (Vm.Alike.refl U.vm) qZ, nF.same rfl qN⟩, va_recv hK hP (ci := 0) (q0 := a) rfl (wld_o ct ad G M hc hk (by decide)), fun U hU hW => ⟨rfl, by rw [hU], by rw [hU]; exact hP, va_K.moved hW.alike hK, hD.weaken (fun _ _ _ _ => trivial), by rw [hU]; exact ((hZ.kept hS.2.1).narrow hf9).moved hW.alike, hN.warm hW⟩⟩ rfl rfl hl.1 rfl (lv_room (Nat.le_of_ble_eq_true rfl)) dX0_chooseByChance_21 ⟨(Nat.zero_le _), (Nat.zero_le _)⟩) hS (fun q _ h => hf9 q h) hf9 (fun r u t H locs ht hvm hw hB hz1 hk1 hS => ?_)
  obtain ⟨hP, hK9, hD9⟩ := hB
  rw [ht] at hP
  try dsimp only at hw
  subst hw
  have hD := hD9.weaken (fun _ q _ h => hf9 q.1 h)
  refine lv_istore (lv' := [(4, .int y6.2), (3, .int x5), (2, .int x1), (0, .ref (ad a)), (1, .int p0)]) hx hb dX0_chooseByChance_24 hl (by decide) rfl (fun ls hl => ?_)
  refine lv_iload hx hb dX0_chooseByChance_26 (lv_at hl 0 rfl) ?_
  refine lv_if_ne (tgt := 56) hx hb dX0_chooseByChance_28 (by decide) (fun c7 => ?_) (fun c7 => ?_)
  · rw [if_neg c7] at hF
    refine lv_aload_n hx hb dX0_chooseByChance_56 rfl (lv_at hl 3 rfl) ?_
    refine va_get (D := D) (ci := 0) (v := va_re ad (y6.1.2 a 3)) (C := RX0) (T := TX0) (N := 21) hx hb hts (mus hf_X0) hown hK hP a (wld_o ct ad G y6.1 hc hk (by decide)) rfl 3 (by decide) (hts (.fieldLink RX0 36 "VideoSuite$Coder" "work" "LVideoSuite$Work;") (mu mw_817)) (fun _ h9 => h9) rfl dX0_chooseByChance_57 ?_
    refine lv_iload_n hx hb dX0_chooseByChance_60 rfl (lv_at hl 4 rfl) ?_
    obtain ⟨b8, ho8, hc8, hk8, hF⟩ := dr_some hF
    refine W_st (st' := [.int p0, .ref (ad b8)]) (by rw [va_some ho8]) ?_
    obtain ⟨y9, hy9, hF⟩ := bnd_some hF
    have hf9 := wA_in hD hA9 hS
    refine va_calli (va_runV (As := [.int p0]) (rest := []) ⟨hx, hb, hml, hown, hts⟩ (kX9_sides l D ct ad Z G y6.1 H.size b8 p0 y9 hc8 hk8 hy9) (cwV 1 hts gX0_chooseByChance_X9_sides rfl rfl rfl (by decide +kernel) ⟨Nat.le_of_ble_eq_true rfl, Nat.le_of_ble_eq_true rfl⟩) ⟨fun a U g mk q => by obtain ⟨q0, q1, qP, qK, qD, qZ, qN⟩ := q; exact ⟨q0, q1, qP, va_K.moved (u := U) (U := U.calling g mk a) (Vm.Alike.refl U.vm) qK, qD, sF.moved (u := U) (U := U.calling g mk a) (Vm.Alike.refl U.vm) qZ, nF.same rfl qN⟩, va_recv hK hP (ci := 9) (q0 := b8) rfl (wld_o ct ad G y6.1 hc8 hk8 (by decide)), fun U hU hW => ⟨rfl, by rw [hU], by rw [hU]; exact hP, va_K.moved hW.alike hK, hD.weaken (fun _ _ _ _ => trivial), by rw [hU]; exact ((hZ.kept hS.2.1).narrow hf9).moved hW.alike, hN.warm hW⟩⟩ rfl rfl hl.1 rfl (lv_room (Nat.le_of_ble_eq_true rfl)) dX0_chooseByChance_61 ⟨(Nat.zero_le _), (Nat.zero_le _)⟩) hS (fun q _ h => hf9 q h) hf9 (fun r u t H locs ht hvm hw hB hz1 hk1 hS => ?_)
    obtain ⟨hP, hK9, hD9⟩ := hB
    rw [ht] at hP
    try dsimp only at hw
    subst hw
    have hD := hD9.weaken (fun _ q _ h => hf9 q.1 h)
    refine lv_istore (lv' := [(5, .int y9.2), (4, .int y6.2), (3, .int x5), (2, .int x1), (0, .ref (ad a)), (1, .int p0)]) hx hb dX0_chooseByChance_64 hl (by decide) rfl (fun ls hl => ?_)
    refine lv_iload hx hb dX0_chooseByChance_66 (lv_at hl 1 rfl) ?_
    refine lv_iconst (v := (1 : Int32)) hx hb dX0_chooseByChance_68 (by decide) ?_
    obtain ⟨y10, hy10, hF⟩ := bnd_some hF
    have J10 : ∀ (H : Heap) (locs : List Loc) (ls : Array Slot), va_P D classes (wld ct ad G y10) H → va_D A (wld ct ad G y10) → va_S A s.heap H locs → lv_has ls 7 [(5, .int y9.2), (4, .int y6.2), (3, .int x5), (2, .int x1), (0, .ref (ad a)), (1, .int p0)] → W p l e (headSpec wuX0_chooseByChance ({ frames := 6, cells := 0, slots := 0, locals := 162 })).room s m ([.ref (ad a), .int p0] : List Value).toArray below meth c H locs 0 0 (MQ below (va_Qv (fun (_ : Unit) => True) (fun _ t => kE D ct ad G A y t) A) ([.ref (ad a), .int p0] : List Value).toArray s 0 0 A) (F0 m 345 ls []) := by
      intro H locs ls hP hD hS hl
      obtain rfl := Option.some.inj hF
      exact W.vret hx hb hr (fun t ht hW => ⟨⟨(), rfl, trivial, ⟨by rw [ht]; exact hP, va_K.moved hW.alike hK, hD⟩⟩, hS.F ht⟩) hS.2.2 dX0_chooseByChance_345
    clear hF
    have hF := hy10
    clear hy10
    refine lv_icmp_eq (tgt := 84) hx hb dX0_chooseByChance_69 (by decide) (fun c11 => ?_) (fun c11 => ?_)
    · rw [if_pos c11] at hF
      refine lv_aload_n hx hb dX0_chooseByChance_84 rfl (lv_at hl 4 rfl) ?_
      refine va_get (D := D) (ci := 0) (v := va_re ad (y9.1.2 a 3)) (C := RX0) (T := TX0) (N := 21) hx hb hts (mus hf_X0) hown hK hP a (wld_o ct ad G y9.1 hc hk (by decide)) rfl 3 (by decide) (hts (.fieldLink RX0 36 "VideoSuite$Coder" "work" "LVideoSuite$Work;") (mu mw_817)) (fun _ h9 => h9) rfl dX0_chooseByChance_85 ?_
      obtain ⟨b12, ho12, hc12, hk12, hF⟩ := dr_some hF
      refine W_st (st' := [.ref (ad b12)]) (by rw [va_some ho12]) ?_
      refine va_get (D := D) (ci := 9) (v := va_re ad (y9.1.2 b12 6)) (C := RX9) (T := TX9) (N := 20) hx hb hts (mus hf_X9) hown hK hP b12 (wld_o ct ad G y9.1 hc12 hk12 (by decide)) rfl 6 (by decide) (hts (.fieldLink RX0 216 "VideoSuite$Work" "info" "[I") (mu mw_445)) (fun _ h9 => h9) rfl dX0_chooseByChance_88 ?_
      refine lv_iload_n hx hb dX0_chooseByChance_91 rfl (lv_at hl 3 rfl) ?_
      refine lv_iconst (v := (0 : Int32)) hx hb dX0_chooseByChance_92 (by decide) ?_
      refine lv_iadd hx hb dX0_chooseByChance_93 ?_
      obtain ⟨x13, ex13, hF⟩ := ltt_some hF
      refine lv_topi (fun zx13 ezx13 => ?_)
      obtain rfl : x13 = zx13 := ex13.trans ezx13.symm
      refine lv_iconst (v := (1 : Int32)) hx hb dX0_chooseByChance_94 (by decide) ?_
      obtain ⟨b14, ho14, hc14, hk14, hF⟩ := dr_some hF
      refine W_st (st' := [.int (1 : Int32), .int x13, .ref (ad b14)]) (by rw [va_some ho14]) ?_
      obtain ⟨hvc, hF⟩ := chk_some hF
      refine va_iast hx hb hK hP hD hS b14 1 (wld_i ct ad G y9.1 hc14 hk14) rfl hvc dX0_chooseByChance_95 (fun H locs hP hD hS => ?_)
      obtain ⟨M15, eM15, hF⟩ := ltt_some hF
      rw [set_i ct ad G y9.1 hc14 hk14, ← eM15] at hP hD
      refine lv_aload_n hx hb dX0_chooseByChance_96 rfl (lv_at hl 4 rfl) ?_
      refine va_get (D := D) (ci := 0) (v := va_re ad (M15.2 a 3)) (C := RX0) (T := TX0) (N := 21) hx hb hts (mus hf_X0) hown hK hP a (wld_o ct ad G M15 hc hk (by decide)) rfl 3 (by decide) (hts (.fieldLink RX0 36 "VideoSuite$Coder" "work" "LVideoSuite$Work;") (mu mw_817)) (fun _ h9 => h9) rfl dX0_chooseByChance_97 ?_
      obtain ⟨b16, ho16, hc16, hk16, hF⟩ := dr_some hF
      refine W_st (st' := [.ref (ad b16)]) (by rw [va_some ho16]) ?_
      refine va_get (D := D) (ci := 9) (v := va_re ad (M15.2 b16 7)) (C := RX9) (T := TX9) (N := 20) hx hb hts (mus hf_X9) hown hK hP b16 (wld_o ct ad G M15 hc16 hk16 (by decide)) rfl 7 (by decide) (hts (.fieldLink RX0 356 "VideoSuite$Work" "mode" "[I") (mu mw_448)) (fun _ h9 => h9) rfl dX0_chooseByChance_100 ?_
      refine lv_bipush (v := (16 : Int32)) hx hb dX0_chooseByChance_103 (by decide) ?_
      refine lv_iload_n hx hb dX0_chooseByChance_105 rfl (lv_at hl 5 rfl) ?_
      refine lv_imul hx hb dX0_chooseByChance_106 ?_
      obtain ⟨x17, ex17, hF⟩ := ltt_some hF
      refine lv_topi (fun zx17 ezx17 => ?_)
      obtain rfl : x17 = zx17 := ex17.trans ezx17.symm
      refine lv_bipush (v := (16 : Int32)) hx hb dX0_chooseByChance_107 (by decide) ?_
      refine lv_iload_n hx hb dX0_chooseByChance_109 rfl (lv_at hl 5 rfl) ?_
      refine lv_imul hx hb dX0_chooseByChance_110 ?_
      obtain ⟨x18, ex18, hF⟩ := ltt_some hF
      refine lv_topi (fun zx18 ezx18 => ?_)
      obtain rfl : x18 = zx18 := ex18.trans ezx18.symm
      refine lv_bipush (v := (16 : Int32)) hx hb dX0_chooseByChance_111 (by decide) ?_
      refine lv_iadd hx hb dX0_chooseByChance_113 ?_
      obtain ⟨x19, ex19, hF⟩ := ltt_some hF
      refine lv_topi (fun zx19 ezx19 => ?_)
      obtain rfl : x19 = zx19 := ex19.trans ezx19.symm
      refine lv_aload_n hx hb dX0_chooseByChance_114 rfl (lv_at hl 4 rfl) ?_
      refine lv_iconst (v := (1 : Int32)) hx hb dX0_chooseByChance_115 (by decide) ?_
      refine lv_iconst (v := (4 : Int32)) hx hb dX0_chooseByChance_116 (by decide) ?_
      refine lv_iload hx hb dX0_chooseByChance_117 (lv_at hl 0 rfl) ?_
      obtain ⟨y20, hy20, hF⟩ := bnd_some hF
      have hf9 := wA_in hD hA9 hS
      refine va_calli (va_runV (As := [.int (1 : Int32), .int (4 : Int32), .int y9.2]) (rest := [.int x19, .int x17, va_re ad (M15.2 b16 7)]) ⟨hx, hb, hml, hown, hts⟩ (kX0_drawMode l D ct ad Z G M15 H.size a ((1 : Int32)) ((4 : Int32)) y9.2 y20 hc hk hy20) (cwV 3 hts gX0_chooseByChance_X0_drawMode rfl rfl rfl (by decide +kernel) ⟨Nat.le_of_ble_eq_true rfl, Nat.le_of_ble_eq_true rfl⟩) ⟨fun a U g mk q => by obtain ⟨q0, q1, qP, qK, qD, qZ, qN⟩ := q; exact ⟨q0, q1, qP, va_K.moved (u := U) (U := U.calling g mk a) (Vm.Alike.refl U.vm) qK, qD, sF.moved (u := U) (U := U.calling g mk a) (Vm.Alike.refl U.vm) qZ, nF.same rfl qN⟩, va_recv hK hP (ci := 0) (q0 := a) rfl (wld_o ct ad G M15 hc hk (by decide)), fun U hU hW => ⟨rfl, by rw [hU], by rw [hU]; exact hP, va_K.moved hW.alike hK, hD.weaken (fun _ _ _ _ => trivial), by rw [hU]; exact ((hZ.kept hS.2.1).narrow hf9).moved hW.alike, hN.warm hW⟩⟩ rfl rfl hl.1 rfl (lv_room (by simp only [List.map, va_re_cat]; exact Nat.le_of_ble_eq_true rfl)) dX0_chooseByChance_119 ⟨(Nat.zero_le _), (Nat.zero_le _)⟩) hS (fun q _ h => hf9 q h) hf9 (fun r u t H locs ht hvm hw hB hz1 hk1 hS => ?_)
      obtain ⟨hP, hK9, hD9⟩ := hB
      rw [ht] at hP
      try dsimp only at hw
      subst hw
      have hD := hD9.weaken (fun _ q _ h => hf9 q.1 h)
      obtain ⟨y21, hy21, hF⟩ := bnd_some hF
      have hf9 := wA_in hD hA9 hS
      refine va_callv (va_runS (As := [va_re ad (M15.2 b16 7), .int x17, .int x19, .int y20.2]) (rest := []) ⟨hx, hb, hml, hown, hts⟩ (kJ7_fill_fda19 l D ct ad Z G y20.1 H.size ((M15.2 b16 7)) x17 x19 y20.2 y21 hy21) (va_cwS 4 hts gX0_chooseByChance_J7_fill_fda19 rfl rfl rfl (by decide +kernel) ⟨Nat.le_of_ble_eq_true rfl, Nat.le_of_ble_eq_true rfl⟩) ⟨fun a U g mk q => by obtain ⟨q0, q1, qP, qK, qD, qZ, qN⟩ := q; exact ⟨q0, q1, qP, va_K.moved (u := U) (U := U.calling g mk a) (Vm.Alike.refl U.vm) qK, qD, sF.moved (u := U) (U := U.calling g mk a) (Vm.Alike.refl U.vm) qZ, nF.same rfl qN⟩, fun U hU hW => ⟨rfl, by rw [hU], by rw [hU]; exact hP, va_K.moved hW.alike hK, hD.weaken (fun _ _ _ _ => trivial), by rw [hU]; exact ((hZ.kept hS.2.1).narrow hf9).moved hW.alike, hN.warm hW⟩⟩ rfl rfl hl.1 rfl (lv_room (Nat.le_of_ble_eq_true rfl)) dX0_chooseByChance_122 ⟨(Nat.zero_le _), (Nat.zero_le _)⟩) hS (fun q _ h => hf9 q h) hf9 (fun u t H locs ht hvm hw hB hz1 hk1 hS => ?_)
      obtain ⟨hP, hK9, hD9⟩ := hB
      rw [ht] at hP
      have hD := hD9.weaken (fun _ q _ h => hf9 q.1 h)
      refine lv_aload_n hx hb dX0_chooseByChance_125 rfl (lv_at hl 4 rfl) ?_
      refine va_get (D := D) (ci := 0) (v := va_re ad (y21.2 a 3)) (C := RX0) (T := TX0) (N := 21) hx hb hts (mus hf_X0) hown hK hP a (wld_o ct ad G y21 hc hk (by decide)) rfl 3 (by decide) (hts (.fieldLink RX0 36 "VideoSuite$Coder" "work" "LVideoSuite$Work;") (mu mw_817)) (fun _ h9 => h9) rfl dX0_chooseByChance_126 ?_
      obtain ⟨b22, ho22, hc22, hk22, hF⟩ := dr_some hF
      refine W_st (st' := [.ref (ad b22)]) (by rw [va_some ho22]) ?_
      refine va_get (D := D) (ci := 9) (v := va_re ad (y21.2 b22 6)) (C := RX9) (T := TX9) (N := 20) hx hb hts (mus hf_X9) hown hK hP b22 (wld_o ct ad G y21 hc22 hk22 (by decide)) rfl 6 (by decide) (hts (.fieldLink RX0 216 "VideoSuite$Work" "info" "[I") (mu mw_445)) (fun _ h9 => h9) rfl dX0_chooseByChance_129 ?_
      refine lv_iload_n hx hb dX0_chooseByChance_132 rfl (lv_at hl 3 rfl) ?_
      refine lv_iconst (v := (5 : Int32)) hx hb dX0_chooseByChance_133 (by decide) ?_
      refine lv_iadd hx hb dX0_chooseByChance_134 ?_
      obtain ⟨x23, ex23, hF⟩ := ltt_some hF
      refine lv_topi (fun zx23 ezx23 => ?_)
      obtain rfl : x23 = zx23 := ex23.trans ezx23.symm
      refine lv_aload_n hx hb dX0_chooseByChance_135 rfl (lv_at hl 4 rfl) ?_
      refine lv_iconst (v := (-1 : Int32)) hx hb dX0_chooseByChance_136 (by decide) ?_
      refine lv_iconst (v := (4 : Int32)) hx hb dX0_chooseByChance_137 (by decide) ?_
      refine lv_iload hx hb dX0_chooseByChance_138 (lv_at hl 0 rfl) ?_
      obtain ⟨y24, hy24, hF⟩ := bnd_some hF
      have hf9 := wA_in hD hA9 hS
      refine va_calli (va_runV (As := [.int (-1 : Int32), .int (4 : Int32), .int y9.2]) (rest := [.int x23, va_re ad (y21.2 b22 6)]) ⟨hx, hb, hml, hown, hts⟩ (kX0_drawMode l D ct ad Z G y21 H.size a ((-1 : Int32)) ((4 : Int32)) y9.2 y24 hc hk hy24) (cwV 3 hts gX0_chooseByChance_X0_drawMode rfl rfl rfl (by decide +kernel) ⟨Nat.le_of_ble_eq_true rfl, Nat.le_of_ble_eq_true rfl⟩) ⟨fun a U g mk q => by obtain ⟨q0, q1, qP, qK, qD, qZ, qN⟩ := q; exact ⟨q0, q1, qP, va_K.moved (u := U) (U := U.calling g mk a) (Vm.Alike.refl U.vm) qK, qD, sF.moved (u := U) (U := U.calling g mk a) (Vm.Alike.refl U.vm) qZ, nF.same rfl qN⟩, va_recv hK hP (ci := 0) (q0 := a) rfl (wld_o ct ad G y21 hc hk (by decide)), fun U hU hW => ⟨rfl, by rw [hU], by rw [hU]; exact hP, va_K.moved hW.alike hK, hD.weaken (fun _ _ _ _ => trivial), by rw [hU]; exact ((hZ.kept hS.2.1).narrow hf9).moved hW.alike, hN.warm hW⟩⟩ rfl rfl hl.1 rfl (lv_room (by simp only [List.map, va_re_cat]; exact Nat.le_of_ble_eq_true rfl)) dX0_chooseByChance_140 ⟨(Nat.zero_le _), (Nat.zero_le _)⟩) hS (fun q _ h => hf9 q h) hf9 (fun r u t H locs ht hvm hw hB hz1 hk1 hS => ?_)
      obtain ⟨hP, hK9, hD9⟩ := hB
      rw [ht] at hP
      try dsimp only at hw
      subst hw
      have hD := hD9.weaken (fun _ q _ h => hf9 q.1 h)
      obtain ⟨b25, ho25, hc25, hk25, hF⟩ := dr_some hF
      refine W_st (st' := [.int y24.2, .int x23, .ref (ad b25)]) (by rw [va_some ho25]) ?_
      obtain ⟨hvc, hF⟩ := chk_some hF
      refine va_iast hx hb hK hP hD hS b25 1 (wld_i ct ad G y24.1 hc25 hk25) rfl hvc dX0_chooseByChance_143 (fun H locs hP hD hS => ?_)
      obtain ⟨M26, eM26, hF⟩ := ltt_some hF
      rw [set_i ct ad G y24.1 hc25 hk25, ← eM26] at hP hD
      refine lv_goto (tgt := 345) hx hb dX0_chooseByChance_144 (by decide) ?_
      obtain rfl := Option.some.inj hF
      exact J10 _ _ _ hP hD hS (lv_sub hl [0, 1, 2, 3, 4, 5] rfl)
    · rw [if_neg c11] at hF
      refine lv_iload_n hx hb dX0_chooseByChance_72 rfl (lv_at hl 2 rfl) ?_
      refine lv_iconst (v := (2 : Int32)) hx hb dX0_chooseByChance_73 (by decide) ?_
      obtain ⟨y27, hy27, hF⟩ := bnd_some hF
      have J27 : ∀ (H : Heap) (locs : List Loc) (ls : Array Slot), va_P D classes (wld ct ad G y27) H → va_D A (wld ct ad G y27) → va_S A s.heap H locs → lv_has ls 7 [(5, .int y9.2), (4, .int y6.2), (3, .int x5), (2, .int x1), (0, .ref (ad a)), (1, .int p0)] → W p l e (headSpec wuX0_chooseByChance ({ frames := 6, cells := 0, slots := 0, locals := 162 })).room s m ([.ref (ad a), .int p0] : List Value).toArray below meth c H locs 0 0 (MQ below (va_Qv (fun (_ : Unit) => True) (fun _ t => kE D ct ad G A y t) A) ([.ref (ad a), .int p0] : List Value).toArray s 0 0 A) (F0 m 345 ls []) := by
        intro H locs ls hP hD hS hl
        obtain rfl := Option.some.inj hF
        exact J10 _ _ _ hP hD hS (lv_sub hl [0, 1, 2, 3, 4, 5] rfl)
      clear hF
      have hF := hy27
      clear hy27
      refine lv_icmp_ne (tgt := 147) hx hb dX0_chooseByChance_74 (by decide) (fun c28 => ?_) (fun c28 => ?_)
      · rw [if_neg c28] at hF
        refine lv_iload hx hb dX0_chooseByChance_147 (lv_at hl 1 rfl) ?_
        refine lv_iconst (v := (2 : Int32)) hx hb dX0_chooseByChance_149 (by decide) ?_
        obtain ⟨y29, hy29, hF⟩ := bnd_some hF
        have J29 : ∀ (H : Heap) (locs : List Loc) (ls : Array Slot), va_P D classes (wld ct ad G y29.2) H → va_D A (wld ct ad G y29.2) → va_S A s.heap H locs → lv_has ls 7 [(6, .int y29.1), (5, .int y9.2), (4, .int y6.2), (3, .int x5), (2, .int x1), (0, .ref (ad a)), (1, .int p0)] → W p l e (headSpec wuX0_chooseByChance ({ frames := 6, cells := 0, slots := 0, locals := 162 })).room s m ([.ref (ad a), .int p0] : List Value).toArray below meth c H locs 0 0 (MQ below (va_Qv (fun (_ : Unit) => True) (fun _ t => kE D ct ad G A y t) A) ([.ref (ad a), .int p0] : List Value).toArray s 0 0 A) (F0 m 345 ls []) := by
          intro H locs ls hP hD hS hl
          obtain rfl := Option.some.inj hF
          exact J27 _ _ _ hP hD hS (lv_sub hl [1, 2, 3, 4, 5, 6] rfl)
        clear hF
        have hF := hy29
        clear hy29
        refine lv_icmp_eq (tgt := 158) hx hb dX0_chooseByChance_150 (by decide) (fun c30 => ?_) (fun c30 => ?_)
        · rw [if_pos c30] at hF
          refine lv_aload_n hx hb dX0_chooseByChance_158 rfl (lv_at hl 4 rfl) ?_
          refine va_get (D := D) (ci := 0) (v := va_re ad (y9.1.2 a 3)) (C := RX0) (T := TX0) (N := 21) hx hb hts (mus hf_X0) hown hK hP a (wld_o ct ad G y9.1 hc hk (by decide)) rfl 3 (by decide) (hts (.fieldLink RX0 36 "VideoSuite$Coder" "work" "LVideoSuite$Work;") (mu mw_817)) (fun _ h9 => h9) rfl dX0_chooseByChance_159 ?_
          obtain ⟨b31, ho31, hc31, hk31, hF⟩ := dr_some hF
          refine W_st (st' := [.ref (ad b31)]) (by rw [va_some ho31]) ?_
          refine va_get (D := D) (ci := 9) (v := va_re ad (y9.1.2 b31 6)) (C := RX9) (T := TX9) (N := 20) hx hb hts (mus hf_X9) hown hK hP b31 (wld_o ct ad G y9.1 hc31 hk31 (by decide)) rfl 6 (by decide) (hts (.fieldLink RX0 216 "VideoSuite$Work" "info" "[I") (mu mw_445)) (fun _ h9 => h9) rfl dX0_chooseByChance_162 ?_
          refine lv_iload_n hx hb dX0_chooseByChance_165 rfl (lv_at hl 3 rfl) ?_
          refine lv_iconst (v := (0 : Int32)) hx hb dX0_chooseByChance_166 (by decide) ?_
          refine lv_iadd hx hb dX0_chooseByChance_167 ?_
          obtain ⟨x32, ex32, hF⟩ := ltt_some hF
          refine lv_topi (fun zx32 ezx32 => ?_)
          obtain rfl : x32 = zx32 := ex32.trans ezx32.symm
          refine lv_iconst (v := (0 : Int32)) hx hb dX0_chooseByChance_168 (by decide) ?_
          obtain ⟨b33, ho33, hc33, hk33, hF⟩ := dr_some hF
          refine W_st (st' := [.int (0 : Int32), .int x32, .ref (ad b33)]) (by rw [va_some ho33]) ?_
          obtain ⟨hvc, hF⟩ := chk_some hF
          refine va_iast hx hb hK hP hD hS b33 1 (wld_i ct ad G y9.1 hc33 hk33) rfl hvc dX0_chooseByChance_169 (fun H locs hP hD hS => ?_)
          obtain ⟨M34, eM34, hF⟩ := ltt_some hF
          rw [set_i ct ad G y9.1 hc33 hk33, ← eM34] at hP hD
          refine lv_iconst (v := (0 : Int32)) hx hb dX0_chooseByChance_170 (by decide) ?_
          refine lv_istore (lv' := [(6, .int (0 : Int32)), (5, .int y9.2), (4, .int y6.2), (3, .int x5), (2, .int x1), (0, .ref (ad a)), (1, .int p0)]) hx hb dX0_chooseByChance_171 hl (by decide) rfl (fun ls hl => ?_)
          obtain ⟨y35, hy35, hF⟩ := bnd_some hF
          have K35 : ∀ (H : Heap) (locs : List Loc) (ls : Array Slot), va_P D classes (wld ct ad G y35.2) H → va_D A (wld ct ad G y35.2) → va_S A s.heap H locs → lv_has ls 7 [(6, .int y35.1), (5, .int y9.2), (4, .int y6.2), (3, .int x5), (2, .int x1), (0, .ref (ad a)), (1, .int p0)] → W p l e (headSpec wuX0_chooseByChance ({ frames := 6, cells := 0, slots := 0, locals := 162 })).room s m ([.ref (ad a), .int p0] : List Value).toArray below meth c H locs 0 0 (MQ below (va_Qv (fun (_ : Unit) => True) (fun _ t => kE D ct ad G A y t) A) ([.ref (ad a), .int p0] : List Value).toArray s 0 0 A) (F0 m 215 ls []) := by
            intro H locs ls hP hD hS hl
            refine lv_aload_n hx hb dX0_chooseByChance_215 rfl (lv_at hl 5 rfl) ?_
            refine va_get (D := D) (ci := 0) (v := va_re ad (y35.2.2 a 3)) (C := RX0) (T := TX0) (N := 21) hx hb hts (mus hf_X0) hown hK hP a (wld_o ct ad G y35.2 hc hk (by decide)) rfl 3 (by decide) (hts (.fieldLink RX0 36 "VideoSuite$Coder" "work" "LVideoSuite$Work;") (mu mw_817)) (fun _ h9 => h9) rfl dX0_chooseByChance_216 ?_
            obtain ⟨b38, ho38, hc38, hk38, hF⟩ := dr_some hF
            refine W_st (st' := [.ref (ad b38)]) (by rw [va_some ho38]) ?_
            refine va_get (D := D) (ci := 9) (v := va_re ad (y35.2.2 b38 6)) (C := RX9) (T := TX9) (N := 20) hx hb hts (mus hf_X9) hown hK hP b38 (wld_o ct ad G y35.2 hc38 hk38 (by decide)) rfl 6 (by decide) (hts (.fieldLink RX0 216 "VideoSuite$Work" "info" "[I") (mu mw_445)) (fun _ h9 => h9) rfl dX0_chooseByChance_219 ?_
            refine lv_iload_n hx hb dX0_chooseByChance_222 rfl (lv_at hl 4 rfl) ?_
            refine lv_iconst (v := (5 : Int32)) hx hb dX0_chooseByChance_223 (by decide) ?_
            refine lv_iadd hx hb dX0_chooseByChance_224 ?_
            obtain ⟨x39, ex39, hF⟩ := ltt_some hF
            refine lv_topi (fun zx39 ezx39 => ?_)
            obtain rfl : x39 = zx39 := ex39.trans ezx39.symm
            refine lv_aload_n hx hb dX0_chooseByChance_225 rfl (lv_at hl 5 rfl) ?_
            refine lv_iconst (v := (-1 : Int32)) hx hb dX0_chooseByChance_226 (by decide) ?_
            refine lv_iconst (v := (4 : Int32)) hx hb dX0_chooseByChance_227 (by decide) ?_
            refine lv_iload hx hb dX0_chooseByChance_228 (lv_at hl 1 rfl) ?_
            obtain ⟨y40, hy40, hF⟩ := bnd_some hF
            have hf9 := wA_in hD hA9 hS
            refine va_calli (va_runV (As := [.int (-1 : Int32), .int (4 : Int32), .int y9.2]) (rest := [.int x39, va_re ad (y35.2.2 b38 6)]) ⟨hx, hb, hml, hown, hts⟩ (kX0_drawMode l D ct ad Z G y35.2 H.size a ((-1 : Int32)) ((4 : Int32)) y9.2 y40 hc hk hy40) (cwV 3 hts gX0_chooseByChance_X0_drawMode rfl rfl rfl (by decide +kernel) ⟨Nat.le_of_ble_eq_true rfl, Nat.le_of_ble_eq_true rfl⟩) ⟨fun a U g mk q => by obtain ⟨q0, q1, qP, qK, qD, qZ, qN⟩ := q; exact ⟨q0, q1, qP, va_K.moved (u := U) (U := U.calling g mk a) (Vm.Alike.refl U.vm) qK, qD, sF.moved (u := U) (U := U.calling g mk a) (Vm.Alike.refl U.vm) qZ, nF.same rfl qN⟩, va_recv hK hP (ci := 0) (q0 := a) rfl (wld_o ct ad G y35.2 hc hk (by decide)), fun U hU hW => ⟨rfl, by rw [hU], by rw [hU]; exact hP, va_K.moved hW.alike hK, hD.weaken (fun _ _ _ _ => trivial), by rw [hU]; exact ((hZ.kept hS.2.1).narrow hf9).moved hW.alike, hN.warm hW⟩⟩ rfl rfl hl.1 rfl (lv_room (by simp only [List.map, va_re_cat]; exact Nat.le_of_ble_eq_true rfl)) dX0_chooseByChance_230 ⟨(Nat.zero_le _), (Nat.zero_le _)⟩) hS (fun q _ h => hf9 q h) hf9 (fun r u t H locs ht hvm hw hB hz1 hk1 hS => ?_)
            obtain ⟨hP, hK9, hD9⟩ := hB
            rw [ht] at hP
            try dsimp only at hw
            subst hw
            have hD := hD9.weaken (fun _ q _ h => hf9 q.1 h)
            obtain ⟨b41, ho41, hc41, hk41, hF⟩ := dr_some hF
            refine W_st (st' := [.int y40.2, .int x39, .ref (ad b41)]) (by rw [va_some ho41]) ?_
            obtain ⟨hvc, hF⟩ := chk_some hF
            refine va_iast hx hb hK hP hD hS b41 1 (wld_i ct ad G y40.1 hc41 hk41) rfl hvc dX0_chooseByChance_233 (fun H locs hP hD hS => ?_)
            obtain ⟨M42, eM42, hF⟩ := ltt_some hF
            rw [set_i ct ad G y40.1 hc41 hk41, ← eM42] at hP hD
            refine lv_goto (tgt := 345) hx hb dX0_chooseByChance_234 (by decide) ?_
            obtain rfl := Option.some.inj hF
            exact J29 _ _ _ hP hD hS (lv_sub hl [0, 1, 2, 3, 4, 5, 6] rfl)
          clear hF
          refine itr_rule (fun (s36 : Int32 × DD) => ∀ (H : Heap) (locs : List Loc) (ls : Array Slot), va_P D classes (wld ct ad G s36.2) H → va_D A (wld ct ad G s36.2) → va_S A s.heap H locs → lv_has ls 7 [(6, .int s36.1), (5, .int y9.2), (4, .int y6.2), (3, .int x5), (2, .int x1), (0, .ref (ad a)), (1, .int p0)] → W p l e (headSpec wuX0_chooseByChance ({ frames := 6, cells := 0, slots := 0, locals := 162 })).room s m ([.ref (ad a), .int p0] : List Value).toArray below meth c H locs 0 0 (MQ below (va_Qv (fun (_ : Unit) => True) (fun _ t => kE D ct ad G A y t) A) ([.ref (ad a), .int p0] : List Value).toArray s 0 0 A) (F0 m 173 ls [])) ?_ _ _ hy35 _ _ _ hP hD hS (lv_sub hl [0, 1, 2, 3, 4, 5, 6] rfl)
          rintro s36 ⟨z43, hF, hwz43⟩ H locs ls hP hD hS hl
          try dsimp only at hF
          refine lv_iload hx hb dX0_chooseByChance_173 (lv_at hl 0 rfl) ?_
          refine lv_bipush (v := (16 : Int32)) hx hb dX0_chooseByChance_175 (by decide) ?_
          refine lv_icmp_ge (tgt := 215) hx hb dX0_chooseByChance_177 (by decide) (fun c44 => ?_) (fun c44 => ?_)
          · rw [if_pos c44] at hF
            obtain rfl := Option.some.inj hF
            subst hwz43
            exact K35 _ _ _ hP hD hS (lv_sub hl [0, 1, 2, 3, 4, 5, 6] rfl)
          · rw [if_neg c44] at hF
            refine lv_aload_n hx hb dX0_chooseByChance_180 rfl (lv_at hl 5 rfl) ?_
            refine va_get (D := D) (ci := 0) (v := va_re ad (s36.2.2 a 3)) (C := RX0) (T := TX0) (N := 21) hx hb hts (mus hf_X0) hown hK hP a (wld_o ct ad G s36.2 hc hk (by decide)) rfl 3 (by decide) (hts (.fieldLink RX0 36 "VideoSuite$Coder" "work" "LVideoSuite$Work;") (mu mw_817)) (fun _ h9 => h9) rfl dX0_chooseByChance_181 ?_
            obtain ⟨b45, ho45, hc45, hk45, hF⟩ := dr_some hF
            refine W_st (st' := [.ref (ad b45)]) (by rw [va_some ho45]) ?_
            refine va_get (D := D) (ci := 9) (v := va_re ad (s36.2.2 b45 7)) (C := RX9) (T := TX9) (N := 20) hx hb hts (mus hf_X9) hown hK hP b45 (wld_o ct ad G s36.2 hc45 hk45 (by decide)) rfl 7 (by decide) (hts (.fieldLink RX0 356 "VideoSuite$Work" "mode" "[I") (mu mw_448)) (fun _ h9 => h9) rfl dX0_chooseByChance_184 ?_
            refine lv_bipush (v := (16 : Int32)) hx hb dX0_chooseByChance_187 (by decide) ?_
            refine lv_iload_n hx hb dX0_chooseByChance_189 rfl (lv_at hl 6 rfl) ?_
            refine lv_imul hx hb dX0_chooseByChance_190 ?_
            obtain ⟨x46, ex46, hF⟩ := ltt_some hF
            refine lv_topi (fun zx46 ezx46 => ?_)
            obtain rfl : x46 = zx46 := ex46.trans ezx46.symm
            refine lv_iload hx hb dX0_chooseByChance_191 (lv_at hl 0 rfl) ?_
            refine lv_iadd hx hb dX0_chooseByChance_193 ?_
            obtain ⟨x47, ex47, hF⟩ := ltt_some hF
            refine lv_topi (fun zx47 ezx47 => ?_)
            obtain rfl : x47 = zx47 := ex47.trans ezx47.symm
            refine lv_aload_n hx hb dX0_chooseByChance_194 rfl (lv_at hl 5 rfl) ?_
            refine lv_iconst (v := (0 : Int32)) hx hb dX0_chooseByChance_195 (by decide) ?_
            refine lv_bipush (v := (9 : Int32)) hx hb dX0_chooseByChance_196 (by decide) ?_
            refine lv_iload hx hb dX0_chooseByChance_198 (lv_at hl 0 rfl) ?_
            refine lv_iload hx hb dX0_chooseByChance_200 (lv_at hl 1 rfl) ?_
            obtain ⟨y48, hy48, hF⟩ := bnd_some hF
            have hf9 := wA_in hD hA9 hS
            refine va_calli (va_runS (As := [.int s36.1, .int y9.2]) (rest := [.int (9 : Int32), .int (0 : Int32), .ref (ad a), .int x47, va_re ad (s36.2.2 b45 7)]) ⟨hx, hb, hml, hown, hts⟩ (kX9_sidesOf l D ct ad Z G s36.2 H.size s36.1 y9.2 y48 hy48) (va_cwS 2 hts gX0_chooseByChance_X9_sidesOf rfl rfl rfl (by decide +kernel) ⟨Nat.le_of_ble_eq_true rfl, Nat.le_of_ble_eq_true rfl⟩) ⟨fun a U g mk q => by obtain ⟨q0, q1, qP, qK, qD, qZ, qN⟩ := q; exact ⟨q0, q1, qP, va_K.moved (u := U) (U := U.calling g mk a) (Vm.Alike.refl U.vm) qK, qD, sF.moved (u := U) (U := U.calling g mk a) (Vm.Alike.refl U.vm) qZ, nF.same rfl qN⟩, fun U hU hW => ⟨rfl, by rw [hU], by rw [hU]; exact hP, va_K.moved hW.alike hK, hD.weaken (fun _ _ _ _ => trivial), by rw [hU]; exact ((hZ.kept hS.2.1).narrow hf9).moved hW.alike, hN.warm hW⟩⟩ rfl rfl hl.1 rfl (lv_room (by simp only [List.map, va_re_cat]; exact Nat.le_of_ble_eq_true rfl)) dX0_chooseByChance_202 ⟨(Nat.zero_le _), (Nat.zero_le _)⟩) hS (fun q _ h => hf9 q h) hf9 (fun r u t H locs ht hvm hw hB hz1 hk1 hS => ?_)
            obtain ⟨hP, hK9, hD9⟩ := hB
            rw [ht] at hP
            try dsimp only at hw
            subst hw
            have hD := hD9.weaken (fun _ q _ h => hf9 q.1 h)
            obtain ⟨y49, hy49, hF⟩ := bnd_some hF
            have hf9 := wA_in hD hA9 hS
            refine va_calli (va_runV (As := [.int (0 : Int32), .int (9 : Int32), .int y48.2]) (rest := [.int x47, va_re ad (s36.2.2 b45 7)]) ⟨hx, hb, hml, hown, hts⟩ (kX0_drawMode l D ct ad Z G y48.1 H.size a ((0 : Int32)) ((9 : Int32)) y48.2 y49 hc hk hy49) (cwV 3 hts gX0_chooseByChance_X0_drawMode rfl rfl rfl (by decide +kernel) ⟨Nat.le_of_ble_eq_true rfl, Nat.le_of_ble_eq_true rfl⟩) ⟨fun a U g mk q => by obtain ⟨q0, q1, qP, qK, qD, qZ, qN⟩ := q; exact ⟨q0, q1, qP, va_K.moved (u := U) (U := U.calling g mk a) (Vm.Alike.refl U.vm) qK, qD, sF.moved (u := U) (U := U.calling g mk a) (Vm.Alike.refl U.vm) qZ, nF.same rfl qN⟩, va_recv hK hP (ci := 0) (q0 := a) rfl (wld_o ct ad G y48.1 hc hk (by decide)), fun U hU hW => ⟨rfl, by rw [hU], by rw [hU]; exact hP, va_K.moved hW.alike hK, hD.weaken (fun _ _ _ _ => trivial), by rw [hU]; exact ((hZ.kept hS.2.1).narrow hf9).moved hW.alike, hN.warm hW⟩⟩ rfl rfl hl.1 rfl (lv_room (by simp only [List.map, va_re_cat]; exact Nat.le_of_ble_eq_true rfl)) dX0_chooseByChance_205 ⟨(Nat.zero_le _), (Nat.zero_le _)⟩) hS (fun q _ h => hf9 q h) hf9 (fun r u t H locs ht hvm hw hB hz1 hk1 hS => ?_)
            obtain ⟨hP, hK9, hD9⟩ := hB
            rw [ht] at hP
            try dsimp only at hw
            subst hw
            have hD := hD9.weaken (fun _ q _ h => hf9 q.1 h)
            obtain ⟨b50, ho50, hc50, hk50, hF⟩ := dr_some hF
            refine W_st (st' := [.int y49.2, .int x47, .ref (ad b50)]) (by rw [va_some ho50]) ?_
            obtain ⟨hvc, hF⟩ := chk_some hF
            refine va_iast hx hb hK hP hD hS b50 1 (wld_i ct ad G y49.1 hc50 hk50) rfl hvc dX0_chooseByChance_208 (fun H locs hP hD hS => ?_)
            obtain ⟨M51, eM51, hF⟩ := ltt_some hF
            rw [set_i ct ad G y49.1 hc50 hk50, ← eM51] at hP hD
            obtain ⟨x52, ex52, hF⟩ := ltt_some hF
            refine lv_iinc (v := x52) (lv' := [(6, .int x52), (5, .int y9.2), (4, .int y6.2), (3, .int x5), (2, .int x1), (0, .ref (ad a)), (1, .int p0)]) hx hb dX0_chooseByChance_209 hl (k := 0) rfl (by rw [ex52]; rfl) (by decide) rfl (fun ls hl => ?_)
            refine lv_goto (tgt := 173) hx hb dX0_chooseByChance_212 (by decide) ?_
            obtain rfl := Option.some.inj hF
            exact hwz43 _ _ _ hP hD hS (lv_sub hl [0, 1, 2, 3, 4, 5, 6] rfl)
        · rw [if_neg c30] at hF
          refine lv_iload_n hx hb dX0_chooseByChance_153 rfl (lv_at hl 2 rfl) ?_
          refine lv_iconst (v := (2 : Int32)) hx hb dX0_chooseByChance_154 (by decide) ?_
          obtain ⟨y53, hy53, hF⟩ := bnd_some hF
          have J53 : ∀ (H : Heap) (locs : List Loc) (ls : Array Slot), va_P D classes (wld ct ad G y53.2) H → va_D A (wld ct ad G y53.2) → va_S A s.heap H locs → lv_has ls 7 [(6, .int y53.1), (5, .int y9.2), (4, .int y6.2), (3, .int x5), (2, .int x1), (0, .ref (ad a)), (1, .int p0)] → W p l e (headSpec wuX0_chooseByChance ({ frames := 6, cells := 0, slots := 0, locals := 162 })).room s m ([.ref (ad a), .int p0] : List Value).toArray below meth c H locs 0 0 (MQ below (va_Qv (fun (_ : Unit) => True) (fun _ t => kE D ct ad G A y t) A) ([.ref (ad a), .int p0] : List Value).toArray s 0 0 A) (F0 m 345 ls []) := by
            intro H locs ls hP hD hS hl
            obtain rfl := Option.some.inj hF
            exact J29 _ _ _ hP hD hS (lv_sub hl [0, 1, 2, 3, 4, 5, 6] rfl)
          clear hF
          have hF := hy53
          clear hy53
          refine lv_icmp_ne (tgt := 237) hx hb dX0_chooseByChance_155 (by decide) (fun c54 => ?_) (fun c54 => ?_)
          · rw [if_neg c54] at hF
            refine lv_aload_n hx hb dX0_chooseByChance_237 rfl (lv_at hl 4 rfl) ?_
            refine va_get (D := D) (ci := 0) (v := va_re ad (y9.1.2 a 3)) (C := RX0) (T := TX0) (N := 21) hx hb hts (mus hf_X0) hown hK hP a (wld_o ct ad G y9.1 hc hk (by decide)) rfl 3 (by decide) (hts (.fieldLink RX0 36 "VideoSuite$Coder" "work" "LVideoSuite$Work;") (mu mw_817)) (fun _ h9 => h9) rfl dX0_chooseByChance_238 ?_
            obtain ⟨b55, ho55, hc55, hk55, hF⟩ := dr_some hF
            refine W_st (st' := [.ref (ad b55)]) (by rw [va_some ho55]) ?_
            refine va_get (D := D) (ci := 9) (v := va_re ad (y9.1.2 b55 6)) (C := RX9) (T := TX9) (N := 20) hx hb hts (mus hf_X9) hown hK hP b55 (wld_o ct ad G y9.1 hc55 hk55 (by decide)) rfl 6 (by decide) (hts (.fieldLink RX0 216 "VideoSuite$Work" "info" "[I") (mu mw_445)) (fun _ h9 => h9) rfl dX0_chooseByChance_241 ?_
            refine lv_iload_n hx hb dX0_chooseByChance_244 rfl (lv_at hl 3 rfl) ?_
            refine lv_iconst (v := (0 : Int32)) hx hb dX0_chooseByChance_245 (by decide) ?_
            refine lv_iadd hx hb dX0_chooseByChance_246 ?_
            obtain ⟨x56, ex56, hF⟩ := ltt_some hF
            refine lv_topi (fun zx56 ezx56 => ?_)
            obtain rfl : x56 = zx56 := ex56.trans ezx56.symm
            refine lv_iconst (v := (3 : Int32)) hx hb dX0_chooseByChance_247 (by decide) ?_
            obtain ⟨b57, ho57, hc57, hk57, hF⟩ := dr_some hF
            refine W_st (st' := [.int (3 : Int32), .int x56, .ref (ad b57)]) (by rw [va_some ho57]) ?_
            obtain ⟨hvc, hF⟩ := chk_some hF
            refine va_iast hx hb hK hP hD hS b57 1 (wld_i ct ad G y9.1 hc57 hk57) rfl hvc dX0_chooseByChance_248 (fun H locs hP hD hS => ?_)
            obtain ⟨M58, eM58, hF⟩ := ltt_some hF
            rw [set_i ct ad G y9.1 hc57 hk57, ← eM58] at hP hD
            refine lv_iload_n hx hb dX0_chooseByChance_249 rfl (lv_at hl 2 rfl) ?_
            obtain ⟨y59, hy59, hF⟩ := bnd_some hF
            have J59 : ∀ (H : Heap) (locs : List Loc) (ls : Array Slot), va_P D classes (wld ct ad G y59.2) H → va_D A (wld ct ad G y59.2) → va_S A s.heap H locs → lv_has ls 7 [(6, .int y59.1), (5, .int y9.2), (4, .int y6.2), (3, .int x5), (2, .int x1), (0, .ref (ad a)), (1, .int p0)] → W p l e (headSpec wuX0_chooseByChance ({ frames := 6, cells := 0, slots := 0, locals := 162 })).room s m ([.ref (ad a), .int p0] : List Value).toArray below meth c H locs 0 0 (MQ below (va_Qv (fun (_ : Unit) => True) (fun _ t => kE D ct ad G A y t) A) ([.ref (ad a), .int p0] : List Value).toArray s 0 0 A) (F0 m 337 ls []) := by
              intro H locs ls hP hD hS hl
              refine lv_aload_n hx hb dX0_chooseByChance_337 rfl (lv_at hl 5 rfl) ?_
              refine lv_iload_n hx hb dX0_chooseByChance_338 rfl (lv_at hl 6 rfl) ?_
              refine lv_iload_n hx hb dX0_chooseByChance_339 rfl (lv_at hl 3 rfl) ?_
              refine lv_iload hx hb dX0_chooseByChance_340 (lv_at hl 0 rfl) ?_
              obtain ⟨y60, hy60, hF⟩ := bnd_some hF
              have hf9 := wA_in hD hA9 hS
              refine va_callv (va_runV (As := [.int p0, .int x5, .int y59.1]) (rest := []) ⟨hx, hb, hml, hown, hts⟩ (kX0_drawByLists l D ct ad Z G y59.2 H.size a p0 x5 y59.1 y60 hc hk hy60) (cwV 3 hts gX0_chooseByChance_X0_drawByLists rfl rfl rfl (by decide +kernel) ⟨Nat.le_of_ble_eq_true rfl, Nat.le_of_ble_eq_true rfl⟩) ⟨fun a U g mk q => by obtain ⟨q0, q1, qP, qK, qD, qZ, qN⟩ := q; exact ⟨q0, q1, qP, va_K.moved (u := U) (U := U.calling g mk a) (Vm.Alike.refl U.vm) qK, qD, sF.moved (u := U) (U := U.calling g mk a) (Vm.Alike.refl U.vm) qZ, nF.same rfl qN⟩, va_recv hK hP (ci := 0) (q0 := a) rfl (wld_o ct ad G y59.2 hc hk (by decide)), fun U hU hW => ⟨rfl, by rw [hU], by rw [hU]; exact hP, va_K.moved hW.alike hK, hD.weaken (fun _ _ _ _ => trivial), by rw [hU]; exact ((hZ.kept hS.2.1).narrow hf9).moved hW.alike, hN.warm hW⟩⟩ rfl rfl hl.1 rfl (lv_room (Nat.le_of_ble_eq_true rfl)) dX0_chooseByChance_342 ⟨(Nat.zero_le _), (Nat.zero_le _)⟩) hS (fun q _ h => hf9 q h) hf9 (fun u t H locs ht hvm hw hB hz1 hk1 hS => ?_)
              obtain ⟨hP, hK9, hD9⟩ := hB
              rw [ht] at hP
              have hD := hD9.weaken (fun _ q _ h => hf9 q.1 h)
              obtain rfl := Option.some.inj hF
              exact J53 _ _ _ hP hD hS (lv_sub hl [0, 1, 2, 3, 4, 5, 6] rfl)
            clear hF
            have hF := hy59
            clear hy59
            refine lv_if_ne (tgt := 302) hx hb dX0_chooseByChance_250 (by decide) (fun c61 => ?_) (fun c61 => ?_)
            · rw [if_neg c61] at hF
              refine lv_iload hx hb dX0_chooseByChance_302 (lv_at hl 1 rfl) ?_
              refine lv_iconst (v := (5 : Int32)) hx hb dX0_chooseByChance_304 (by decide) ?_
              obtain ⟨y62, hy62, hF⟩ := bnd_some hF
              have J62 : ∀ (H : Heap) (locs : List Loc) (ls : Array Slot), va_P D classes (wld ct ad G y62.2) H → va_D A (wld ct ad G y62.2) → va_S A s.heap H locs → lv_has ls 7 [(5, .int y9.2), (4, .int y6.2), (3, .int x5), (2, .int x1), (0, .ref (ad a)), (1, .int p0)] → W p l e (headSpec wuX0_chooseByChance ({ frames := 6, cells := 0, slots := 0, locals := 162 })).room s m ([.ref (ad a), .int p0] : List Value).toArray below meth c H locs 0 0 (MQ below (va_Qv (fun (_ : Unit) => True) (fun _ t => kE D ct ad G A y t) A) ([.ref (ad a), .int p0] : List Value).toArray s 0 0 A) (F0 m 335 ls [.int y62.1]) := by
                intro H locs ls hP hD hS hl
                refine lv_istore (lv' := [(6, .int y62.1), (5, .int y9.2), (4, .int y6.2), (3, .int x5), (2, .int x1), (0, .ref (ad a)), (1, .int p0)]) hx hb dX0_chooseByChance_335 hl (by decide) rfl (fun ls hl => ?_)
                obtain rfl := Option.some.inj hF
                exact J59 _ _ _ hP hD hS (lv_sub hl [0, 1, 2, 3, 4, 5, 6] rfl)
              clear hF
              have hF := hy62
              clear hy62
              refine lv_icmp_ge (tgt := 315) hx hb dX0_chooseByChance_305 (by decide) (fun c63 => ?_) (fun c63 => ?_)
              · rw [if_pos c63] at hF
                refine lv_iload hx hb dX0_chooseByChance_315 (lv_at hl 1 rfl) ?_
                refine lv_bipush (v := (12 : Int32)) hx hb dX0_chooseByChance_317 (by decide) ?_
                obtain ⟨y64, hy64, hF⟩ := bnd_some hF
                have J64 : ∀ (H : Heap) (locs : List Loc) (ls : Array Slot), va_P D classes (wld ct ad G y64.2) H → va_D A (wld ct ad G y64.2) → va_S A s.heap H locs → lv_has ls 7 [(5, .int y9.2), (4, .int y6.2), (3, .int x5), (2, .int x1), (0, .ref (ad a)), (1, .int p0)] → W p l e (headSpec wuX0_chooseByChance ({ frames := 6, cells := 0, slots := 0, locals := 162 })).room s m ([.ref (ad a), .int p0] : List Value).toArray below meth c H locs 0 0 (MQ below (va_Qv (fun (_ : Unit) => True) (fun _ t => kE D ct ad G A y t) A) ([.ref (ad a), .int p0] : List Value).toArray s 0 0 A) (F0 m 335 ls [.int y64.1]) := by
                  intro H locs ls hP hD hS hl
                  obtain rfl := Option.some.inj hF
                  exact J62 _ _ _ hP hD hS (lv_sub hl [0, 1, 2, 3, 4, 5] rfl)
                clear hF
                have hF := hy64
                clear hy64
                refine lv_icmp_ge (tgt := 333) hx hb dX0_chooseByChance_319 (by decide) (fun c65 => ?_) (fun c65 => ?_)
                · rw [if_pos c65] at hF
                  refine lv_bipush (v := (22 : Int32)) hx hb dX0_chooseByChance_333 (by decide) ?_
                  obtain rfl := Option.some.inj hF
                  exact J64 _ _ _ hP hD hS (lv_sub hl [0, 1, 2, 3, 4, 5] rfl)
                · rw [if_neg c65] at hF
                  refine lv_iconst (v := (1 : Int32)) hx hb dX0_chooseByChance_322 (by decide) ?_
                  refine lv_aload_n hx hb dX0_chooseByChance_323 rfl (lv_at hl 4 rfl) ?_
                  refine lv_bipush (v := (21 : Int32)) hx hb dX0_chooseByChance_324 (by decide) ?_
                  obtain ⟨y66, hy66, hF⟩ := bnd_some hF
                  have hf9 := wA_in hD hA9 hS
                  refine va_calli (va_runV (As := [.int (21 : Int32)]) (rest := [.int (1 : Int32)]) ⟨hx, hb, hml, hown, hts⟩ (kX0_draw l D ct ad Z G M58 H.size a ((21 : Int32)) y66 hc hk hy66) (cwV 1 hts gX0_chooseByChance_X0_draw rfl rfl rfl (by decide +kernel) ⟨Nat.le_of_ble_eq_true rfl, Nat.le_of_ble_eq_true rfl⟩) ⟨fun a U g mk q => by obtain ⟨q0, q1, qP, qK, qD, qZ, qN⟩ := q; exact ⟨q0, q1, qP, va_K.moved (u := U) (U := U.calling g mk a) (Vm.Alike.refl U.vm) qK, qD, sF.moved (u := U) (U := U.calling g mk a) (Vm.Alike.refl U.vm) qZ, nF.same rfl qN⟩, va_recv hK hP (ci := 0) (q0 := a) rfl (wld_o ct ad G M58 hc hk (by decide)), fun U hU hW => ⟨rfl, by rw [hU], by rw [hU]; exact hP, va_K.moved hW.alike hK, hD.weaken (fun _ _ _ _ => trivial), by rw [hU]; exact ((hZ.kept hS.2.1).narrow hf9).moved hW.alike, hN.warm hW⟩⟩ rfl rfl hl.1 rfl (lv_room (Nat.le_of_ble_eq_true rfl)) dX0_chooseByChance_326 ⟨(Nat.zero_le _), (Nat.zero_le _)⟩) hS (fun q _ h => hf9 q h) hf9 (fun r u t H locs ht hvm hw hB hz1 hk1 hS => ?_)
                  obtain ⟨hP, hK9, hD9⟩ := hB
                  rw [ht] at hP
                  try dsimp only at hw
                  subst hw
                  have hD := hD9.weaken (fun _ q _ h => hf9 q.1 h)
                  refine lv_iadd hx hb dX0_chooseByChance_329 ?_
                  obtain ⟨x67, ex67, hF⟩ := ltt_some hF
                  refine lv_topi (fun zx67 ezx67 => ?_)
                  obtain rfl : x67 = zx67 := ex67.trans ezx67.symm
                  refine lv_goto (tgt := 335) hx hb dX0_chooseByChance_330 (by decide) ?_
                  obtain rfl := Option.some.inj hF
                  exact J64 _ _ _ hP hD hS (lv_sub hl [0, 1, 2, 3, 4, 5] rfl)
              · rw [if_neg c63] at hF
                refine lv_iload hx hb dX0_chooseByChance_308 (lv_at hl 1 rfl) ?_
                refine lv_iconst (v := (4 : Int32)) hx hb dX0_chooseByChance_310 (by decide) ?_
                refine lv_isub hx hb dX0_chooseByChance_311 ?_
                obtain ⟨x68, ex68, hF⟩ := ltt_some hF
                refine lv_topi (fun zx68 ezx68 => ?_)
                obtain rfl : x68 = zx68 := ex68.trans ezx68.symm
                refine lv_goto (tgt := 335) hx hb dX0_chooseByChance_312 (by decide) ?_
                obtain rfl := Option.some.inj hF
                exact J62 _ _ _ hP hD hS (lv_sub hl [0, 1, 2, 3, 4, 5] rfl)
            · rw [if_pos c61] at hF
              refine lv_iload hx hb dX0_chooseByChance_253 (lv_at hl 1 rfl) ?_
              refine lv_iconst (v := (3 : Int32)) hx hb dX0_chooseByChance_255 (by decide) ?_
              obtain ⟨y69, hy69, hF⟩ := bnd_some hF
              have J69 : ∀ (H : Heap) (locs : List Loc) (ls : Array Slot), va_P D classes (wld ct ad G M58) H → va_D A (wld ct ad G M58) → va_S A s.heap H locs → lv_has ls 7 [(5, .int y9.2), (4, .int y6.2), (3, .int x5), (2, .int x1), (0, .ref (ad a)), (1, .int p0)] → W p l e (headSpec wuX0_chooseByChance ({ frames := 6, cells := 0, slots := 0, locals := 162 })).room s m ([.ref (ad a), .int p0] : List Value).toArray below meth c H locs 0 0 (MQ below (va_Qv (fun (_ : Unit) => True) (fun _ t => kE D ct ad G A y t) A) ([.ref (ad a), .int p0] : List Value).toArray s 0 0 A) (F0 m 297 ls [.int y69]) := by
                intro H locs ls hP hD hS hl
                refine lv_istore (lv' := [(6, .int y69), (5, .int y9.2), (4, .int y6.2), (3, .int x5), (2, .int x1), (0, .ref (ad a)), (1, .int p0)]) hx hb dX0_chooseByChance_297 hl (by decide) rfl (fun ls hl => ?_)
                refine lv_goto (tgt := 337) hx hb dX0_chooseByChance_299 (by decide) ?_
                obtain rfl := Option.some.inj hF
                exact J59 _ _ _ hP hD hS (lv_sub hl [0, 1, 2, 3, 4, 5, 6] rfl)
              clear hF
              have hF := hy69
              clear hy69
              refine lv_icmp_ne (tgt := 263) hx hb dX0_chooseByChance_256 (by decide) (fun c70 => ?_) (fun c70 => ?_)
              · rw [if_neg c70] at hF
                refine lv_iload hx hb dX0_chooseByChance_263 (lv_at hl 1 rfl) ?_
                refine lv_bipush (v := (7 : Int32)) hx hb dX0_chooseByChance_265 (by decide) ?_
                obtain ⟨y71, hy71, hF⟩ := bnd_some hF
                have J71 : ∀ (H : Heap) (locs : List Loc) (ls : Array Slot), va_P D classes (wld ct ad G M58) H → va_D A (wld ct ad G M58) → va_S A s.heap H locs → lv_has ls 7 [(5, .int y9.2), (4, .int y6.2), (3, .int x5), (2, .int x1), (0, .ref (ad a)), (1, .int p0)] → W p l e (headSpec wuX0_chooseByChance ({ frames := 6, cells := 0, slots := 0, locals := 162 })).room s m ([.ref (ad a), .int p0] : List Value).toArray below meth c H locs 0 0 (MQ below (va_Qv (fun (_ : Unit) => True) (fun _ t => kE D ct ad G A y t) A) ([.ref (ad a), .int p0] : List Value).toArray s 0 0 A) (F0 m 297 ls [.int y71]) := by
                  intro H locs ls hP hD hS hl
                  obtain rfl := Option.some.inj hF
                  exact J69 _ _ _ hP hD hS (lv_sub hl [0, 1, 2, 3, 4, 5] rfl)
                clear hF
                have hF := hy71
                clear hy71
                refine lv_icmp_ge (tgt := 274) hx hb dX0_chooseByChance_267 (by decide) (fun c72 => ?_) (fun c72 => ?_)
                · rw [if_pos c72] at hF
                  refine lv_iload hx hb dX0_chooseByChance_274 (lv_at hl 1 rfl) ?_
                  refine lv_bipush (v := (9 : Int32)) hx hb dX0_chooseByChance_276 (by decide) ?_
                  obtain ⟨y73, hy73, hF⟩ := bnd_some hF
                  have J73 : ∀ (H : Heap) (locs : List Loc) (ls : Array Slot), va_P D classes (wld ct ad G M58) H → va_D A (wld ct ad G M58) → va_S A s.heap H locs → lv_has ls 7 [(5, .int y9.2), (4, .int y6.2), (3, .int x5), (2, .int x1), (0, .ref (ad a)), (1, .int p0)] → W p l e (headSpec wuX0_chooseByChance ({ frames := 6, cells := 0, slots := 0, locals := 162 })).room s m ([.ref (ad a), .int p0] : List Value).toArray below meth c H locs 0 0 (MQ below (va_Qv (fun (_ : Unit) => True) (fun _ t => kE D ct ad G A y t) A) ([.ref (ad a), .int p0] : List Value).toArray s 0 0 A) (F0 m 297 ls [.int y73]) := by
                    intro H locs ls hP hD hS hl
                    obtain rfl := Option.some.inj hF
                    exact J71 _ _ _ hP hD hS (lv_sub hl [0, 1, 2, 3, 4, 5] rfl)
                  clear hF
                  have hF := hy73
                  clear hy73
                  refine lv_icmp_ge (tgt := 285) hx hb dX0_chooseByChance_278 (by decide) (fun c74 => ?_) (fun c74 => ?_)
                  · rw [if_pos c74] at hF
                    refine lv_iload hx hb dX0_chooseByChance_285 (lv_at hl 1 rfl) ?_
                    refine lv_bipush (v := (11 : Int32)) hx hb dX0_chooseByChance_287 (by decide) ?_
                    obtain ⟨y75, hy75, hF⟩ := bnd_some hF
                    have J75 : ∀ (H : Heap) (locs : List Loc) (ls : Array Slot), va_P D classes (wld ct ad G M58) H → va_D A (wld ct ad G M58) → va_S A s.heap H locs → lv_has ls 7 [(5, .int y9.2), (4, .int y6.2), (3, .int x5), (2, .int x1), (0, .ref (ad a)), (1, .int p0)] → W p l e (headSpec wuX0_chooseByChance ({ frames := 6, cells := 0, slots := 0, locals := 162 })).room s m ([.ref (ad a), .int p0] : List Value).toArray below meth c H locs 0 0 (MQ below (va_Qv (fun (_ : Unit) => True) (fun _ t => kE D ct ad G A y t) A) ([.ref (ad a), .int p0] : List Value).toArray s 0 0 A) (F0 m 297 ls [.int y75]) := by
                      intro H locs ls hP hD hS hl
                      obtain rfl := Option.some.inj hF
                      exact J73 _ _ _ hP hD hS (lv_sub hl [0, 1, 2, 3, 4, 5] rfl)
                    clear hF
                    have hF := hy75
                    clear hy75
                    refine lv_icmp_ge (tgt := 296) hx hb dX0_chooseByChance_289 (by decide) (fun c76 => ?_) (fun c76 => ?_)
                    · rw [if_pos c76] at hF
                      refine lv_iconst (v := (3 : Int32)) hx hb dX0_chooseByChance_296 (by decide) ?_
                      obtain rfl := Option.some.inj hF
                      exact J75 _ _ _ hP hD hS (lv_sub hl [0, 1, 2, 3, 4, 5] rfl)
                    · rw [if_neg c76] at hF
                      refine lv_iconst (v := (2 : Int32)) hx hb dX0_chooseByChance_292 (by decide) ?_
                      refine lv_goto (tgt := 297) hx hb dX0_chooseByChance_293 (by decide) ?_
                      obtain rfl := Option.some.inj hF
                      exact J75 _ _ _ hP hD hS (lv_sub hl [0, 1, 2, 3, 4, 5] rfl)
                  · rw [if_neg c74] at hF
                    refine lv_iconst (v := (1 : Int32)) hx hb dX0_chooseByChance_281 (by decide) ?_
                    refine lv_goto (tgt := 297) hx hb dX0_chooseByChance_282 (by decide) ?_
                    obtain rfl := Option.some.inj hF
                    exact J73 _ _ _ hP hD hS (lv_sub hl [0, 1, 2, 3, 4, 5] rfl)
                · rw [if_neg c72] at hF
                  refine lv_iconst (v := (0 : Int32)) hx hb dX0_chooseByChance_270 (by decide) ?_
                  refine lv_goto (tgt := 297) hx hb dX0_chooseByChance_271 (by decide) ?_
                  obtain rfl := Option.some.inj hF
                  exact J71 _ _ _ hP hD hS (lv_sub hl [0, 1, 2, 3, 4, 5] rfl)
              · rw [if_pos c70] at hF
                refine lv_iconst (v := (-1 : Int32)) hx hb dX0_chooseByChance_259 (by decide) ?_
                refine lv_goto (tgt := 297) hx hb dX0_chooseByChance_260 (by decide) ?_
                obtain rfl := Option.some.inj hF
                exact J69 _ _ _ hP hD hS (lv_sub hl [0, 1, 2, 3, 4, 5] rfl)
          · rw [if_pos c54] at hF
            refine lv_aload_n hx hb dX0_chooseByChance_158 rfl (lv_at hl 4 rfl) ?_
            refine va_get (D := D) (ci := 0) (v := va_re ad (y9.1.2 a 3)) (C := RX0) (T := TX0) (N := 21) hx hb hts (mus hf_X0) hown hK hP a (wld_o ct ad G y9.1 hc hk (by decide)) rfl 3 (by decide) (hts (.fieldLink RX0 36 "VideoSuite$Coder" "work" "LVideoSuite$Work;") (mu mw_817)) (fun _ h9 => h9) rfl dX0_chooseByChance_159 ?_
            obtain ⟨b77, ho77, hc77, hk77, hF⟩ := dr_some hF
            refine W_st (st' := [.ref (ad b77)]) (by rw [va_some ho77]) ?_
            refine va_get (D := D) (ci := 9) (v := va_re ad (y9.1.2 b77 6)) (C := RX9) (T := TX9) (N := 20) hx hb hts (mus hf_X9) hown hK hP b77 (wld_o ct ad G y9.1 hc77 hk77 (by decide)) rfl 6 (by decide) (hts (.fieldLink RX0 216 "VideoSuite$Work" "info" "[I") (mu mw_445)) (fun _ h9 => h9) rfl dX0_chooseByChance_162 ?_
            refine lv_iload_n hx hb dX0_chooseByChance_165 rfl (lv_at hl 3 rfl) ?_
            refine lv_iconst (v := (0 : Int32)) hx hb dX0_chooseByChance_166 (by decide) ?_
            refine lv_iadd hx hb dX0_chooseByChance_167 ?_
            obtain ⟨x78, ex78, hF⟩ := ltt_some hF
            refine lv_topi (fun zx78 ezx78 => ?_)
            obtain rfl : x78 = zx78 := ex78.trans ezx78.symm
            refine lv_iconst (v := (0 : Int32)) hx hb dX0_chooseByChance_168 (by decide) ?_
            obtain ⟨b79, ho79, hc79, hk79, hF⟩ := dr_some hF
            refine W_st (st' := [.int (0 : Int32), .int x78, .ref (ad b79)]) (by rw [va_some ho79]) ?_
            obtain ⟨hvc, hF⟩ := chk_some hF
            refine va_iast hx hb hK hP hD hS b79 1 (wld_i ct ad G y9.1 hc79 hk79) rfl hvc dX0_chooseByChance_169 (fun H locs hP hD hS => ?_)
            obtain ⟨M80, eM80, hF⟩ := ltt_some hF
            rw [set_i ct ad G y9.1 hc79 hk79, ← eM80] at hP hD
            refine lv_iconst (v := (0 : Int32)) hx hb dX0_chooseByChance_170 (by decide) ?_
            refine lv_istore (lv' := [(6, .int (0 : Int32)), (5, .int y9.2), (4, .int y6.2), (3, .int x5), (2, .int x1), (0, .ref (ad a)), (1, .int p0)]) hx hb dX0_chooseByChance_171 hl (by decide) rfl (fun ls hl => ?_)
            obtain ⟨y81, hy81, hF⟩ := bnd_some hF
            have K81 : ∀ (H : Heap) (locs : List Loc) (ls : Array Slot), va_P D classes (wld ct ad G y81.2) H → va_D A (wld ct ad G y81.2) → va_S A s.heap H locs → lv_has ls 7 [(6, .int y81.1), (5, .int y9.2), (4, .int y6.2), (3, .int x5), (2, .int x1), (0, .ref (ad a)), (1, .int p0)] → W p l e (headSpec wuX0_chooseByChance ({ frames := 6, cells := 0, slots := 0, locals := 162 })).room s m ([.ref (ad a), .int p0] : List Value).toArray below meth c H locs 0 0 (MQ below (va_Qv (fun (_ : Unit) => True) (fun _ t => kE D ct ad G A y t) A) ([.ref (ad a), .int p0] : List Value).toArray s 0 0 A) (F0 m 215 ls []) := by
              intro H locs ls hP hD hS hl
              refine lv_aload_n hx hb dX0_chooseByChance_215 rfl (lv_at hl 5 rfl) ?_
              refine va_get (D := D) (ci := 0) (v := va_re ad (y81.2.2 a 3)) (C := RX0) (T := TX0) (N := 21) hx hb hts (mus hf_X0) hown hK hP a (wld_o ct ad G y81.2 hc hk (by decide)) rfl 3 (by decide) (hts (.fieldLink RX0 36 "VideoSuite$Coder" "work" "LVideoSuite$Work;") (mu mw_817)) (fun _ h9 => h9) rfl dX0_chooseByChance_216 ?_
              obtain ⟨b84, ho84, hc84, hk84, hF⟩ := dr_some hF
              refine W_st (st' := [.ref (ad b84)]) (by rw [va_some ho84]) ?_
              refine va_get (D := D) (ci := 9) (v := va_re ad (y81.2.2 b84 6)) (C := RX9) (T := TX9) (N := 20) hx hb hts (mus hf_X9) hown hK hP b84 (wld_o ct ad G y81.2 hc84 hk84 (by decide)) rfl 6 (by decide) (hts (.fieldLink RX0 216 "VideoSuite$Work" "info" "[I") (mu mw_445)) (fun _ h9 => h9) rfl dX0_chooseByChance_219 ?_
              refine lv_iload_n hx hb dX0_chooseByChance_222 rfl (lv_at hl 4 rfl) ?_
              refine lv_iconst (v := (5 : Int32)) hx hb dX0_chooseByChance_223 (by decide) ?_
              refine lv_iadd hx hb dX0_chooseByChance_224 ?_
              obtain ⟨x85, ex85, hF⟩ := ltt_some hF
              refine lv_topi (fun zx85 ezx85 => ?_)
              obtain rfl : x85 = zx85 := ex85.trans ezx85.symm
              refine lv_aload_n hx hb dX0_chooseByChance_225 rfl (lv_at hl 5 rfl) ?_
              refine lv_iconst (v := (-1 : Int32)) hx hb dX0_chooseByChance_226 (by decide) ?_
              refine lv_iconst (v := (4 : Int32)) hx hb dX0_chooseByChance_227 (by decide) ?_
              refine lv_iload hx hb dX0_chooseByChance_228 (lv_at hl 1 rfl) ?_
              obtain ⟨y86, hy86, hF⟩ := bnd_some hF
              have hf9 := wA_in hD hA9 hS
              refine va_calli (va_runV (As := [.int (-1 : Int32), .int (4 : Int32), .int y9.2]) (rest := [.int x85, va_re ad (y81.2.2 b84 6)]) ⟨hx, hb, hml, hown, hts⟩ (kX0_drawMode l D ct ad Z G y81.2 H.size a ((-1 : Int32)) ((4 : Int32)) y9.2 y86 hc hk hy86) (cwV 3 hts gX0_chooseByChance_X0_drawMode rfl rfl rfl (by decide +kernel) ⟨Nat.le_of_ble_eq_true rfl, Nat.le_of_ble_eq_true rfl⟩) ⟨fun a U g mk q => by obtain ⟨q0, q1, qP, qK, qD, qZ, qN⟩ := q; exact ⟨q0, q1, qP, va_K.moved (u := U) (U := U.calling g mk a) (Vm.Alike.refl U.vm) qK, qD, sF.moved (u := U) (U := U.calling g mk a) (Vm.Alike.refl U.vm) qZ, nF.same rfl qN⟩, va_recv hK hP (ci := 0) (q0 := a) rfl (wld_o ct ad G y81.2 hc hk (by decide)), fun U hU hW => ⟨rfl, by rw [hU], by rw [hU]; exact hP, va_K.moved hW.alike hK, hD.weaken (fun _ _ _ _ => trivial), by rw [hU]; exact ((hZ.kept hS.2.1).narrow hf9).moved hW.alike, hN.warm hW⟩⟩ rfl rfl hl.1 rfl (lv_room (by simp only [List.map, va_re_cat]; exact Nat.le_of_ble_eq_true rfl)) dX0_chooseByChance_230 ⟨(Nat.zero_le _), (Nat.zero_le _)⟩) hS (fun q _ h => hf9 q h) hf9 (fun r u t H locs ht hvm hw hB hz1 hk1 hS => ?_)
              obtain ⟨hP, hK9, hD9⟩ := hB
              rw [ht] at hP
              try dsimp only at hw
              subst hw
              have hD := hD9.weaken (fun _ q _ h => hf9 q.1 h)
              obtain ⟨b87, ho87, hc87, hk87, hF⟩ := dr_some hF
              refine W_st (st' := [.int y86.2, .int x85, .ref (ad b87)]) (by rw [va_some ho87]) ?_
              obtain ⟨hvc, hF⟩ := chk_some hF
              refine va_iast hx hb hK hP hD hS b87 1 (wld_i ct ad G y86.1 hc87 hk87) rfl hvc dX0_chooseByChance_233 (fun H locs hP hD hS => ?_)
              obtain ⟨M88, eM88, hF⟩ := ltt_some hF
              rw [set_i ct ad G y86.1 hc87 hk87, ← eM88] at hP hD
              refine lv_goto (tgt := 345) hx hb dX0_chooseByChance_234 (by decide) ?_
              obtain rfl := Option.some.inj hF
              exact J53 _ _ _ hP hD hS (lv_sub hl [0, 1, 2, 3, 4, 5, 6] rfl)
            clear hF
            refine itr_rule (fun (s82 : Int32 × DD) => ∀ (H : Heap) (locs : List Loc) (ls : Array Slot), va_P D classes (wld ct ad G s82.2) H → va_D A (wld ct ad G s82.2) → va_S A s.heap H locs → lv_has ls 7 [(6, .int s82.1), (5, .int y9.2), (4, .int y6.2), (3, .int x5), (2, .int x1), (0, .ref (ad a)), (1, .int p0)] → W p l e (headSpec wuX0_chooseByChance ({ frames := 6, cells := 0, slots := 0, locals := 162 })).room s m ([.ref (ad a), .int p0] : List Value).toArray below meth c H locs 0 0 (MQ below (va_Qv (fun (_ : Unit) => True) (fun _ t => kE D ct ad G A y t) A) ([.ref (ad a), .int p0] : List Value).toArray s 0 0 A) (F0 m 173 ls [])) ?_ _ _ hy81 _ _ _ hP hD hS (lv_sub hl [0, 1, 2, 3, 4, 5, 6] rfl)
            rintro s82 ⟨z89, hF, hwz89⟩ H locs ls hP hD hS hl
            try dsimp only at hF
            refine lv_iload hx hb dX0_chooseByChance_173 (lv_at hl 0 rfl) ?_
            refine lv_bipush (v := (16 : Int32)) hx hb dX0_chooseByChance_175 (by decide) ?_
            refine lv_icmp_ge (tgt := 215) hx hb dX0_chooseByChance_177 (by decide) (fun c90 => ?_) (fun c90 => ?_)
            · rw [if_pos c90] at hF
              obtain rfl := Option.some.inj hF
              subst hwz89
              exact K81 _ _ _ hP hD hS (lv_sub hl [0, 1, 2, 3, 4, 5, 6] rfl)
            · rw [if_neg c90] at hF
              refine lv_aload_n hx hb dX0_chooseByChance_180 rfl (lv_at hl 5 rfl) ?_
              refine va_get (D := D) (ci := 0) (v := va_re ad (s82.2.2 a 3)) (C := RX0) (T := TX0) (N := 21) hx hb hts (mus hf_X0) hown hK hP a (wld_o ct ad G s82.2 hc hk (by decide)) rfl 3 (by decide) (hts (.fieldLink RX0 36 "VideoSuite$Coder" "work" "LVideoSuite$Work;") (mu mw_817)) (fun _ h9 => h9) rfl dX0_chooseByChance_181 ?_
              obtain ⟨b91, ho91, hc91, hk91, hF⟩ := dr_some hF
              refine W_st (st' := [.ref (ad b91)]) (by rw [va_some ho91]) ?_
              refine va_get (D := D) (ci := 9) (v := va_re ad (s82.2.2 b91 7)) (C := RX9) (T := TX9) (N := 20) hx hb hts (mus hf_X9) hown hK hP b91 (wld_o ct ad G s82.2 hc91 hk91 (by decide)) rfl 7 (by decide) (hts (.fieldLink RX0 356 "VideoSuite$Work" "mode" "[I") (mu mw_448)) (fun _ h9 => h9) rfl dX0_chooseByChance_184 ?_
              refine lv_bipush (v := (16 : Int32)) hx hb dX0_chooseByChance_187 (by decide) ?_
              refine lv_iload_n hx hb dX0_chooseByChance_189 rfl (lv_at hl 6 rfl) ?_
              refine lv_imul hx hb dX0_chooseByChance_190 ?_
              obtain ⟨x92, ex92, hF⟩ := ltt_some hF
              refine lv_topi (fun zx92 ezx92 => ?_)
              obtain rfl : x92 = zx92 := ex92.trans ezx92.symm
              refine lv_iload hx hb dX0_chooseByChance_191 (lv_at hl 0 rfl) ?_
              refine lv_iadd hx hb dX0_chooseByChance_193 ?_
              obtain ⟨x93, ex93, hF⟩ := ltt_some hF
              refine lv_topi (fun zx93 ezx93 => ?_)
              obtain rfl : x93 = zx93 := ex93.trans ezx93.symm
              refine lv_aload_n hx hb dX0_chooseByChance_194 rfl (lv_at hl 5 rfl) ?_
              refine lv_iconst (v := (0 : Int32)) hx hb dX0_chooseByChance_195 (by decide) ?_
              refine lv_bipush (v := (9 : Int32)) hx hb dX0_chooseByChance_196 (by decide) ?_
              refine lv_iload hx hb dX0_chooseByChance_198 (lv_at hl 0 rfl) ?_
              refine lv_iload hx hb dX0_chooseByChance_200 (lv_at hl 1 rfl) ?_
              obtain ⟨y94, hy94, hF⟩ := bnd_some hF
              have hf9 := wA_in hD hA9 hS
              refine va_calli (va_runS (As := [.int s82.1, .int y9.2]) (rest := [.int (9 : Int32), .int (0 : Int32), .ref (ad a), .int x93, va_re ad (s82.2.2 b91 7)]) ⟨hx, hb, hml, hown, hts⟩ (kX9_sidesOf l D ct ad Z G s82.2 H.size s82.1 y9.2 y94 hy94) (va_cwS 2 hts gX0_chooseByChance_X9_sidesOf rfl rfl rfl (by decide +kernel) ⟨Nat.le_of_ble_eq_true rfl, Nat.le_of_ble_eq_true rfl⟩) ⟨fun a U g mk q => by obtain ⟨q0, q1, qP, qK, qD, qZ, qN⟩ := q; exact ⟨q0, q1, qP, va_K.moved (u := U) (U := U.calling g mk a) (Vm.Alike.refl U.vm) qK, qD, sF.moved (u := U) (U := U.calling g mk a) (Vm.Alike.refl U.vm) qZ, nF.same rfl qN⟩, fun U hU hW => ⟨rfl, by rw [hU], by rw [hU]; exact hP, va_K.moved hW.alike hK, hD.weaken (fun _ _ _ _ => trivial), by rw [hU]; exact ((hZ.kept hS.2.1).narrow hf9).moved hW.alike, hN.warm hW⟩⟩ rfl rfl hl.1 rfl (lv_room (by simp only [List.map, va_re_cat]; exact Nat.le_of_ble_eq_true rfl)) dX0_chooseByChance_202 ⟨(Nat.zero_le _), (Nat.zero_le _)⟩) hS (fun q _ h => hf9 q h) hf9 (fun r u t H locs ht hvm hw hB hz1 hk1 hS => ?_)
              obtain ⟨hP, hK9, hD9⟩ := hB
              rw [ht] at hP
              try dsimp only at hw
              subst hw
              have hD := hD9.weaken (fun _ q _ h => hf9 q.1 h)
              obtain ⟨y95, hy95, hF⟩ := bnd_some hF
              have hf9 := wA_in hD hA9 hS
              refine va_calli (va_runV (As := [.int (0 : Int32), .int (9 : Int32), .int y94.2]) (rest := [.int x93, va_re ad (s82.2.2 b91 7)]) ⟨hx, hb, hml, hown, hts⟩ (kX0_drawMode l D ct ad Z G y94.1 H.size a ((0 : Int32)) ((9 : Int32)) y94.2 y95 hc hk hy95) (cwV 3 hts gX0_chooseByChance_X0_drawMode rfl rfl rfl (by decide +kernel) ⟨Nat.le_of_ble_eq_true rfl, Nat.le_of_ble_eq_true rfl⟩) ⟨fun a U g mk q => by obtain ⟨q0, q1, qP, qK, qD, qZ, qN⟩ := q; exact ⟨q0, q1, qP, va_K.moved (u := U) (U := U.calling g mk a) (Vm.Alike.refl U.vm) qK, qD, sF.moved (u := U) (U := U.calling g mk a) (Vm.Alike.refl U.vm) qZ, nF.same rfl qN⟩, va_recv hK hP (ci := 0) (q0 := a) rfl (wld_o ct ad G y94.1 hc hk (by decide)), fun U hU hW => ⟨rfl, by rw [hU], by rw [hU]; exact hP, va_K.moved hW.alike hK, hD.weaken (fun _ _ _ _ => trivial), by rw [hU]; exact ((hZ.kept hS.2.1).narrow hf9).moved hW.alike, hN.warm hW⟩⟩ rfl rfl hl.1 rfl (lv_room (by simp only [List.map, va_re_cat]; exact Nat.le_of_ble_eq_true rfl)) dX0_chooseByChance_205 ⟨(Nat.zero_le _), (Nat.zero_le _)⟩) hS (fun q _ h => hf9 q h) hf9 (fun r u t H locs ht hvm hw hB hz1 hk1 hS => ?_)
              obtain ⟨hP, hK9, hD9⟩ := hB
              rw [ht] at hP
              try dsimp only at hw
              subst hw
              have hD := hD9.weaken (fun _ q _ h => hf9 q.1 h)
              obtain ⟨b96, ho96, hc96, hk96, hF⟩ := dr_some hF
              refine W_st (st' := [.int y95.2, .int x93, .ref (ad b96)]) (by rw [va_some ho96]) ?_
              obtain ⟨hvc, hF⟩ := chk_some hF
              refine va_iast hx hb hK hP hD hS b96 1 (wld_i ct ad G y95.1 hc96 hk96) rfl hvc dX0_chooseByChance_208 (fun H locs hP hD hS => ?_)
              obtain ⟨M97, eM97, hF⟩ := ltt_some hF
              rw [set_i ct ad G y95.1 hc96 hk96, ← eM97] at hP hD
              obtain ⟨x98, ex98, hF⟩ := ltt_some hF
              refine lv_iinc (v := x98) (lv' := [(6, .int x98), (5, .int y9.2), (4, .int y6.2), (3, .int x5), (2, .int x1), (0, .ref (ad a)), (1, .int p0)]) hx hb dX0_chooseByChance_209 hl (k := 0) rfl (by rw [ex98]; rfl) (by decide) rfl (fun ls hl => ?_)
              refine lv_goto (tgt := 173) hx hb dX0_chooseByChance_212 (by decide) ?_
              obtain rfl := Option.some.inj hF
              exact hwz89 _ _ _ hP hD hS (lv_sub hl [0, 1, 2, 3, 4, 5, 6] rfl)
      · rw [if_pos c28] at hF
        refine lv_iload hx hb dX0_chooseByChance_77 (lv_at hl 1 rfl) ?_
        refine lv_bipush (v := (8 : Int32)) hx hb dX0_chooseByChance_79 (by decide) ?_
        obtain ⟨y99, hy99, hF⟩ := bnd_some hF
        have J99 : ∀ (H : Heap) (locs : List Loc) (ls : Array Slot), va_P D classes (wld ct ad G y99) H → va_D A (wld ct ad G y99) → va_S A s.heap H locs → lv_has ls 7 [(5, .int y9.2), (4, .int y6.2), (3, .int x5), (2, .int x1), (0, .ref (ad a)), (1, .int p0)] → W p l e (headSpec wuX0_chooseByChance ({ frames := 6, cells := 0, slots := 0, locals := 162 })).room s m ([.ref (ad a), .int p0] : List Value).toArray below meth c H locs 0 0 (MQ below (va_Qv (fun (_ : Unit) => True) (fun _ t => kE D ct ad G A y t) A) ([.ref (ad a), .int p0] : List Value).toArray s 0 0 A) (F0 m 345 ls []) := by
          intro H locs ls hP hD hS hl
          obtain rfl := Option.some.inj hF
          exact J27 _ _ _ hP hD hS (lv_sub hl [0, 1, 2, 3, 4, 5] rfl)
        clear hF
        have hF := hy99
        clear hy99
        refine lv_icmp_ge (tgt := 147) hx hb dX0_chooseByChance_81 (by decide) (fun c100 => ?_) (fun c100 => ?_)
        · rw [if_pos c100] at hF
          refine lv_iload hx hb dX0_chooseByChance_147 (lv_at hl 1 rfl) ?_
          refine lv_iconst (v := (2 : Int32)) hx hb dX0_chooseByChance_149 (by decide) ?_
          obtain ⟨y101, hy101, hF⟩ := bnd_some hF
          have J101 : ∀ (H : Heap) (locs : List Loc) (ls : Array Slot), va_P D classes (wld ct ad G y101.2) H → va_D A (wld ct ad G y101.2) → va_S A s.heap H locs → lv_has ls 7 [(6, .int y101.1), (5, .int y9.2), (4, .int y6.2), (3, .int x5), (2, .int x1), (0, .ref (ad a)), (1, .int p0)] → W p l e (headSpec wuX0_chooseByChance ({ frames := 6, cells := 0, slots := 0, locals := 162 })).room s m ([.ref (ad a), .int p0] : List Value).toArray below meth c H locs 0 0 (MQ below (va_Qv (fun (_ : Unit) => True) (fun _ t => kE D ct ad G A y t) A) ([.ref (ad a), .int p0] : List Value).toArray s 0 0 A) (F0 m 345 ls []) := by
            intro H locs ls hP hD hS hl
            obtain rfl := Option.some.inj hF
            exact J99 _ _ _ hP hD hS (lv_sub hl [1, 2, 3, 4, 5, 6] rfl)
          clear hF
          have hF := hy101
          clear hy101
          refine lv_icmp_eq (tgt := 158) hx hb dX0_chooseByChance_150 (by decide) (fun c102 => ?_) (fun c102 => ?_)
          · rw [if_pos c102] at hF
            refine lv_aload_n hx hb dX0_chooseByChance_158 rfl (lv_at hl 4 rfl) ?_
            refine va_get (D := D) (ci := 0) (v := va_re ad (y9.1.2 a 3)) (C := RX0) (T := TX0) (N := 21) hx hb hts (mus hf_X0) hown hK hP a (wld_o ct ad G y9.1 hc hk (by decide)) rfl 3 (by decide) (hts (.fieldLink RX0 36 "VideoSuite$Coder" "work" "LVideoSuite$Work;") (mu mw_817)) (fun _ h9 => h9) rfl dX0_chooseByChance_159 ?_
            obtain ⟨b103, ho103, hc103, hk103, hF⟩ := dr_some hF
            refine W_st (st' := [.ref (ad b103)]) (by rw [va_some ho103]) ?_
            refine va_get (D := D) (ci := 9) (v := va_re ad (y9.1.2 b103 6)) (C := RX9) (T := TX9) (N := 20) hx hb hts (mus hf_X9) hown hK hP b103 (wld_o ct ad G y9.1 hc103 hk103 (by decide)) rfl 6 (by decide) (hts (.fieldLink RX0 216 "VideoSuite$Work" "info" "[I") (mu mw_445)) (fun _ h9 => h9) rfl dX0_chooseByChance_162 ?_
            refine lv_iload_n hx hb dX0_chooseByChance_165 rfl (lv_at hl 3 rfl) ?_
            refine lv_iconst (v := (0 : Int32)) hx hb dX0_chooseByChance_166 (by decide) ?_
            refine lv_iadd hx hb dX0_chooseByChance_167 ?_
            obtain ⟨x104, ex104, hF⟩ := ltt_some hF
            refine lv_topi (fun zx104 ezx104 => ?_)
            obtain rfl : x104 = zx104 := ex104.trans ezx104.symm
            refine lv_iconst (v := (0 : Int32)) hx hb dX0_chooseByChance_168 (by decide) ?_
            obtain ⟨b105, ho105, hc105, hk105, hF⟩ := dr_some hF
            refine W_st (st' := [.int (0 : Int32), .int x104, .ref (ad b105)]) (by rw [va_some ho105]) ?_
            obtain ⟨hvc, hF⟩ := chk_some hF
            refine va_iast hx hb hK hP hD hS b105 1 (wld_i ct ad G y9.1 hc105 hk105) rfl hvc dX0_chooseByChance_169 (fun H locs hP hD hS => ?_)
            obtain ⟨M106, eM106, hF⟩ := ltt_some hF
            rw [set_i ct ad G y9.1 hc105 hk105, ← eM106] at hP hD
            refine lv_iconst (v := (0 : Int32)) hx hb dX0_chooseByChance_170 (by decide) ?_
            refine lv_istore (lv' := [(6, .int (0 : Int32)), (5, .int y9.2), (4, .int y6.2), (3, .int x5), (2, .int x1), (0, .ref (ad a)), (1, .int p0)]) hx hb dX0_chooseByChance_171 hl (by decide) rfl (fun ls hl => ?_)
            obtain ⟨y107, hy107, hF⟩ := bnd_some hF
            have K107 : ∀ (H : Heap) (locs : List Loc) (ls : Array Slot), va_P D classes (wld ct ad G y107.2) H → va_D A (wld ct ad G y107.2) → va_S A s.heap H locs → lv_has ls 7 [(6, .int y107.1), (5, .int y9.2), (4, .int y6.2), (3, .int x5), (2, .int x1), (0, .ref (ad a)), (1, .int p0)] → W p l e (headSpec wuX0_chooseByChance ({ frames := 6, cells := 0, slots := 0, locals := 162 })).room s m ([.ref (ad a), .int p0] : List Value).toArray below meth c H locs 0 0 (MQ below (va_Qv (fun (_ : Unit) => True) (fun _ t => kE D ct ad G A y t) A) ([.ref (ad a), .int p0] : List Value).toArray s 0 0 A) (F0 m 215 ls []) := by
              intro H locs ls hP hD hS hl
              refine lv_aload_n hx hb dX0_chooseByChance_215 rfl (lv_at hl 5 rfl) ?_
              refine va_get (D := D) (ci := 0) (v := va_re ad (y107.2.2 a 3)) (C := RX0) (T := TX0) (N := 21) hx hb hts (mus hf_X0) hown hK hP a (wld_o ct ad G y107.2 hc hk (by decide)) rfl 3 (by decide) (hts (.fieldLink RX0 36 "VideoSuite$Coder" "work" "LVideoSuite$Work;") (mu mw_817)) (fun _ h9 => h9) rfl dX0_chooseByChance_216 ?_
              obtain ⟨b110, ho110, hc110, hk110, hF⟩ := dr_some hF
              refine W_st (st' := [.ref (ad b110)]) (by rw [va_some ho110]) ?_
              refine va_get (D := D) (ci := 9) (v := va_re ad (y107.2.2 b110 6)) (C := RX9) (T := TX9) (N := 20) hx hb hts (mus hf_X9) hown hK hP b110 (wld_o ct ad G y107.2 hc110 hk110 (by decide)) rfl 6 (by decide) (hts (.fieldLink RX0 216 "VideoSuite$Work" "info" "[I") (mu mw_445)) (fun _ h9 => h9) rfl dX0_chooseByChance_219 ?_
              refine lv_iload_n hx hb dX0_chooseByChance_222 rfl (lv_at hl 4 rfl) ?_
              refine lv_iconst (v := (5 : Int32)) hx hb dX0_chooseByChance_223 (by decide) ?_
              refine lv_iadd hx hb dX0_chooseByChance_224 ?_
              obtain ⟨x111, ex111, hF⟩ := ltt_some hF
              refine lv_topi (fun zx111 ezx111 => ?_)
              obtain rfl : x111 = zx111 := ex111.trans ezx111.symm
              refine lv_aload_n hx hb dX0_chooseByChance_225 rfl (lv_at hl 5 rfl) ?_
              refine lv_iconst (v := (-1 : Int32)) hx hb dX0_chooseByChance_226 (by decide) ?_
              refine lv_iconst (v := (4 : Int32)) hx hb dX0_chooseByChance_227 (by decide) ?_
              refine lv_iload hx hb dX0_chooseByChance_228 (lv_at hl 1 rfl) ?_
              obtain ⟨y112, hy112, hF⟩ := bnd_some hF
              have hf9 := wA_in hD hA9 hS
              refine va_calli (va_runV (As := [.int (-1 : Int32), .int (4 : Int32), .int y9.2]) (rest := [.int x111, va_re ad (y107.2.2 b110 6)]) ⟨hx, hb, hml, hown, hts⟩ (kX0_drawMode l D ct ad Z G y107.2 H.size a ((-1 : Int32)) ((4 : Int32)) y9.2 y112 hc hk hy112) (cwV 3 hts gX0_chooseByChance_X0_drawMode rfl rfl rfl (by decide +kernel) ⟨Nat.le_of_ble_eq_true rfl, Nat.le_of_ble_eq_true rfl⟩) ⟨fun a U g mk q => by obtain ⟨q0, q1, qP, qK, qD, qZ, qN⟩ := q; exact ⟨q0, q1, qP, va_K.moved (u := U) (U := U.calling g mk a) (Vm.Alike.refl U.vm) qK, qD, sF.moved (u := U) (U := U.calling g mk a) (Vm.Alike.refl U.vm) qZ, nF.same rfl qN⟩, va_recv hK hP (ci := 0) (q0 := a) rfl (wld_o ct ad G y107.2 hc hk (by decide)), fun U hU hW => ⟨rfl, by rw [hU], by rw [hU]; exact hP, va_K.moved hW.alike hK, hD.weaken (fun _ _ _ _ => trivial), by rw [hU]; exact ((hZ.kept hS.2.1).narrow hf9).moved hW.alike, hN.warm hW⟩⟩ rfl rfl hl.1 rfl (lv_room (by simp only [List.map, va_re_cat]; exact Nat.le_of_ble_eq_true rfl)) dX0_chooseByChance_230 ⟨(Nat.zero_le _), (Nat.zero_le _)⟩) hS (fun q _ h => hf9 q h) hf9 (fun r u t H locs ht hvm hw hB hz1 hk1 hS => ?_)
              obtain ⟨hP, hK9, hD9⟩ := hB
              rw [ht] at hP
              try dsimp only at hw
              subst hw
              have hD := hD9.weaken (fun _ q _ h => hf9 q.1 h)
              obtain ⟨b113, ho113, hc113, hk113, hF⟩ := dr_some hF
              refine W_st (st' := [.int y112.2, .int x111, .ref (ad b113)]) (by rw [va_some ho113]) ?_
              obtain ⟨hvc, hF⟩ := chk_some hF
              refine va_iast hx hb hK hP hD hS b113 1 (wld_i ct ad G y112.1 hc113 hk113) rfl hvc dX0_chooseByChance_233 (fun H locs hP hD hS => ?_)
              obtain ⟨M114, eM114, hF⟩ := ltt_some hF
              rw [set_i ct ad G y112.1 hc113 hk113, ← eM114] at hP hD
              refine lv_goto (tgt := 345) hx hb dX0_chooseByChance_234 (by decide) ?_
              obtain rfl := Option.some.inj hF
              exact J101 _ _ _ hP hD hS (lv_sub hl [0, 1, 2, 3, 4, 5, 6] rfl)
            clear hF
            refine itr_rule (fun (s108 : Int32 × DD) => ∀ (H : Heap) (locs : List Loc) (ls : Array Slot), va_P D classes (wld ct ad G s108.2) H → va_D A (wld ct ad G s108.2) → va_S A s.heap H locs → lv_has ls 7 [(6, .int s108.1), (5, .int y9.2), (4, .int y6.2), (3, .int x5), (2, .int x1), (0, .ref (ad a)), (1, .int p0)] → W p l e (headSpec wuX0_chooseByChance ({ frames := 6, cells := 0, slots := 0, locals := 162 })).room s m ([.ref (ad a), .int p0] : List Value).toArray below meth c H locs 0 0 (MQ below (va_Qv (fun (_ : Unit) => True) (fun _ t => kE D ct ad G A y t) A) ([.ref (ad a), .int p0] : List Value).toArray s 0 0 A) (F0 m 173 ls [])) ?_ _ _ hy107 _ _ _ hP hD hS (lv_sub hl [0, 1, 2, 3, 4, 5, 6] rfl)
            rintro s108 ⟨z115, hF, hwz115⟩ H locs ls hP hD hS hl
            try dsimp only at hF
            refine lv_iload hx hb dX0_chooseByChance_173 (lv_at hl 0 rfl) ?_
            refine lv_bipush (v := (16 : Int32)) hx hb dX0_chooseByChance_175 (by decide) ?_
            refine lv_icmp_ge (tgt := 215) hx hb dX0_chooseByChance_177 (by decide) (fun c116 => ?_) (fun c116 => ?_)
            · rw [if_pos c116] at hF
              obtain rfl := Option.some.inj hF
              subst hwz115
              exact K107 _ _ _ hP hD hS (lv_sub hl [0, 1, 2, 3, 4, 5, 6] rfl)
            · rw [if_neg c116] at hF
              refine lv_aload_n hx hb dX0_chooseByChance_180 rfl (lv_at hl 5 rfl) ?_
              refine va_get (D := D) (ci := 0) (v := va_re ad (s108.2.2 a 3)) (C := RX0) (T := TX0) (N := 21) hx hb hts (mus hf_X0) hown hK hP a (wld_o ct ad G s108.2 hc hk (by decide)) rfl 3 (by decide) (hts (.fieldLink RX0 36 "VideoSuite$Coder" "work" "LVideoSuite$Work;") (mu mw_817)) (fun _ h9 => h9) rfl dX0_chooseByChance_181 ?_
              obtain ⟨b117, ho117, hc117, hk117, hF⟩ := dr_some hF
              refine W_st (st' := [.ref (ad b117)]) (by rw [va_some ho117]) ?_
              refine va_get (D := D) (ci := 9) (v := va_re ad (s108.2.2 b117 7)) (C := RX9) (T := TX9) (N := 20) hx hb hts (mus hf_X9) hown hK hP b117 (wld_o ct ad G s108.2 hc117 hk117 (by decide)) rfl 7 (by decide) (hts (.fieldLink RX0 356 "VideoSuite$Work" "mode" "[I") (mu mw_448)) (fun _ h9 => h9) rfl dX0_chooseByChance_184 ?_
              refine lv_bipush (v := (16 : Int32)) hx hb dX0_chooseByChance_187 (by decide) ?_
              refine lv_iload_n hx hb dX0_chooseByChance_189 rfl (lv_at hl 6 rfl) ?_
              refine lv_imul hx hb dX0_chooseByChance_190 ?_
              obtain ⟨x118, ex118, hF⟩ := ltt_some hF
              refine lv_topi (fun zx118 ezx118 => ?_)
              obtain rfl : x118 = zx118 := ex118.trans ezx118.symm
              refine lv_iload hx hb dX0_chooseByChance_191 (lv_at hl 0 rfl) ?_
              refine lv_iadd hx hb dX0_chooseByChance_193 ?_
              obtain ⟨x119, ex119, hF⟩ := ltt_some hF
              refine lv_topi (fun zx119 ezx119 => ?_)
              obtain rfl : x119 = zx119 := ex119.trans ezx119.symm
              refine lv_aload_n hx hb dX0_chooseByChance_194 rfl (lv_at hl 5 rfl) ?_
              refine lv_iconst (v := (0 : Int32)) hx hb dX0_chooseByChance_195 (by decide) ?_
              refine lv_bipush (v := (9 : Int32)) hx hb dX0_chooseByChance_196 (by decide) ?_
              refine lv_iload hx hb dX0_chooseByChance_198 (lv_at hl 0 rfl) ?_
              refine lv_iload hx hb dX0_chooseByChance_200 (lv_at hl 1 rfl) ?_
              obtain ⟨y120, hy120, hF⟩ := bnd_some hF
              have hf9 := wA_in hD hA9 hS
              refine va_calli (va_runS (As := [.int s108.1, .int y9.2]) (rest := [.int (9 : Int32), .int (0 : Int32), .ref (ad a), .int x119, va_re ad (s108.2.2 b117 7)]) ⟨hx, hb, hml, hown, hts⟩ (kX9_sidesOf l D ct ad Z G s108.2 H.size s108.1 y9.2 y120 hy120) (va_cwS 2 hts gX0_chooseByChance_X9_sidesOf rfl rfl rfl (by decide +kernel) ⟨Nat.le_of_ble_eq_true rfl, Nat.le_of_ble_eq_true rfl⟩) ⟨fun a U g mk q => by obtain ⟨q0, q1, qP, qK, qD, qZ, qN⟩ := q; exact ⟨q0, q1, qP, va_K.moved (u := U) (U := U.calling g mk a) (Vm.Alike.refl U.vm) qK, qD, sF.moved (u := U) (U := U.calling g mk a) (Vm.Alike.refl U.vm) qZ, nF.same rfl qN⟩, fun U hU hW => ⟨rfl, by rw [hU], by rw [hU]; exact hP, va_K.moved hW.alike hK, hD.weaken (fun _ _ _ _ => trivial), by rw [hU]; exact ((hZ.kept hS.2.1).narrow hf9).moved hW.alike, hN.warm hW⟩⟩ rfl rfl hl.1 rfl (lv_room (by simp only [List.map, va_re_cat]; exact Nat.le_of_ble_eq_true rfl)) dX0_chooseByChance_202 ⟨(Nat.zero_le _), (Nat.zero_le _)⟩) hS (fun q _ h => hf9 q h) hf9 (fun r u t H locs ht hvm hw hB hz1 hk1 hS => ?_)
              obtain ⟨hP, hK9, hD9⟩ := hB
              rw [ht] at hP
              try dsimp only at hw
              subst hw
              have hD := hD9.weaken (fun _ q _ h => hf9 q.1 h)
              obtain ⟨y121, hy121, hF⟩ := bnd_some hF
              have hf9 := wA_in hD hA9 hS
              refine va_calli (va_runV (As := [.int (0 : Int32), .int (9 : Int32), .int y120.2]) (rest := [.int x119, va_re ad (s108.2.2 b117 7)]) ⟨hx, hb, hml, hown, hts⟩ (kX0_drawMode l D ct ad Z G y120.1 H.size a ((0 : Int32)) ((9 : Int32)) y120.2 y121 hc hk hy121) (cwV 3 hts gX0_chooseByChance_X0_drawMode rfl rfl rfl (by decide +kernel) ⟨Nat.le_of_ble_eq_true rfl, Nat.le_of_ble_eq_true rfl⟩) ⟨fun a U g mk q => by obtain ⟨q0, q1, qP, qK, qD, qZ, qN⟩ := q; exact ⟨q0, q1, qP, va_K.moved (u := U) (U := U.calling g mk a) (Vm.Alike.refl U.vm) qK, qD, sF.moved (u := U) (U := U.calling g mk a) (Vm.Alike.refl U.vm) qZ, nF.same rfl qN⟩, va_recv hK hP (ci := 0) (q0 := a) rfl (wld_o ct ad G y120.1 hc hk (by decide)), fun U hU hW => ⟨rfl, by rw [hU], by rw [hU]; exact hP, va_K.moved hW.alike hK, hD.weaken (fun _ _ _ _ => trivial), by rw [hU]; exact ((hZ.kept hS.2.1).narrow hf9).moved hW.alike, hN.warm hW⟩⟩ rfl rfl hl.1 rfl (lv_room (by simp only [List.map, va_re_cat]; exact Nat.le_of_ble_eq_true rfl)) dX0_chooseByChance_205 ⟨(Nat.zero_le _), (Nat.zero_le _)⟩) hS (fun q _ h => hf9 q h) hf9 (fun r u t H locs ht hvm hw hB hz1 hk1 hS => ?_)
              obtain ⟨hP, hK9, hD9⟩ := hB
              rw [ht] at hP
              try dsimp only at hw
              subst hw
              have hD := hD9.weaken (fun _ q _ h => hf9 q.1 h)
              obtain ⟨b122, ho122, hc122, hk122, hF⟩ := dr_some hF
              refine W_st (st' := [.int y121.2, .int x119, .ref (ad b122)]) (by rw [va_some ho122]) ?_
              obtain ⟨hvc, hF⟩ := chk_some hF
              refine va_iast hx hb hK hP hD hS b122 1 (wld_i ct ad G y121.1 hc122 hk122) rfl hvc dX0_chooseByChance_208 (fun H locs hP hD hS => ?_)
              obtain ⟨M123, eM123, hF⟩ := ltt_some hF
              rw [set_i ct ad G y121.1 hc122 hk122, ← eM123] at hP hD
              obtain ⟨x124, ex124, hF⟩ := ltt_some hF
              refine lv_iinc (v := x124) (lv' := [(6, .int x124), (5, .int y9.2), (4, .int y6.2), (3, .int x5), (2, .int x1), (0, .ref (ad a)), (1, .int p0)]) hx hb dX0_chooseByChance_209 hl (k := 0) rfl (by rw [ex124]; rfl) (by decide) rfl (fun ls hl => ?_)
              refine lv_goto (tgt := 173) hx hb dX0_chooseByChance_212 (by decide) ?_
              obtain rfl := Option.some.inj hF
              exact hwz115 _ _ _ hP hD hS (lv_sub hl [0, 1, 2, 3, 4, 5, 6] rfl)
          · rw [if_neg c102] at hF
            refine lv_iload_n hx hb dX0_chooseByChance_153 rfl (lv_at hl 2 rfl) ?_
            refine lv_iconst (v := (2 : Int32)) hx hb dX0_chooseByChance_154 (by decide) ?_
            obtain ⟨y125, hy125, hF⟩ := bnd_some hF
            have J125 : ∀ (H : Heap) (locs : List Loc) (ls : Array Slot), va_P D classes (wld ct ad G y125.2) H → va_D A (wld ct ad G y125.2) → va_S A s.heap H locs → lv_has ls 7 [(6, .int y125.1), (5, .int y9.2), (4, .int y6.2), (3, .int x5), (2, .int x1), (0, .ref (ad a)), (1, .int p0)] → W p l e (headSpec wuX0_chooseByChance ({ frames := 6, cells := 0, slots := 0, locals := 162 })).room s m ([.ref (ad a), .int p0] : List Value).toArray below meth c H locs 0 0 (MQ below (va_Qv (fun (_ : Unit) => True) (fun _ t => kE D ct ad G A y t) A) ([.ref (ad a), .int p0] : List Value).toArray s 0 0 A) (F0 m 345 ls []) := by
              intro H locs ls hP hD hS hl
              obtain rfl := Option.some.inj hF
              exact J101 _ _ _ hP hD hS (lv_sub hl [0, 1, 2, 3, 4, 5, 6] rfl)
            clear hF
            have hF := hy125
            clear hy125
            refine lv_icmp_ne (tgt := 237) hx hb dX0_chooseByChance_155 (by decide) (fun c126 => ?_) (fun c126 => ?_)
            · rw [if_neg c126] at hF
              refine lv_aload_n hx hb dX0_chooseByChance_237 rfl (lv_at hl 4 rfl) ?_
              refine va_get (D := D) (ci := 0) (v := va_re ad (y9.1.2 a 3)) (C := RX0) (T := TX0) (N := 21) hx hb hts (mus hf_X0) hown hK hP a (wld_o ct ad G y9.1 hc hk (by decide)) rfl 3 (by decide) (hts (.fieldLink RX0 36 "VideoSuite$Coder" "work" "LVideoSuite$Work;") (mu mw_817)) (fun _ h9 => h9) rfl dX0_chooseByChance_238 ?_
              obtain ⟨b127, ho127, hc127, hk127, hF⟩ := dr_some hF
              refine W_st (st' := [.ref (ad b127)]) (by rw [va_some ho127]) ?_
              refine va_get (D := D) (ci := 9) (v := va_re ad (y9.1.2 b127 6)) (C := RX9) (T := TX9) (N := 20) hx hb hts (mus hf_X9) hown hK hP b127 (wld_o ct ad G y9.1 hc127 hk127 (by decide)) rfl 6 (by decide) (hts (.fieldLink RX0 216 "VideoSuite$Work" "info" "[I") (mu mw_445)) (fun _ h9 => h9) rfl dX0_chooseByChance_241 ?_
              refine lv_iload_n hx hb dX0_chooseByChance_244 rfl (lv_at hl 3 rfl) ?_
              refine lv_iconst (v := (0 : Int32)) hx hb dX0_chooseByChance_245 (by decide) ?_
              refine lv_iadd hx hb dX0_chooseByChance_246 ?_
              obtain ⟨x128, ex128, hF⟩ := ltt_some hF
              refine lv_topi (fun zx128 ezx128 => ?_)
              obtain rfl : x128 = zx128 := ex128.trans ezx128.symm
              refine lv_iconst (v := (3 : Int32)) hx hb dX0_chooseByChance_247 (by decide) ?_
              obtain ⟨b129, ho129, hc129, hk129, hF⟩ := dr_some hF
              refine W_st (st' := [.int (3 : Int32), .int x128, .ref (ad b129)]) (by rw [va_some ho129]) ?_
              obtain ⟨hvc, hF⟩ := chk_some hF
              refine va_iast hx hb hK hP hD hS b129 1 (wld_i ct ad G y9.1 hc129 hk129) rfl hvc dX0_chooseByChance_248 (fun H locs hP hD hS => ?_)
              obtain ⟨M130, eM130, hF⟩ := ltt_some hF
              rw [set_i ct ad G y9.1 hc129 hk129, ← eM130] at hP hD
              refine lv_iload_n hx hb dX0_chooseByChance_249 rfl (lv_at hl 2 rfl) ?_
              obtain ⟨y131, hy131, hF⟩ := bnd_some hF
              have J131 : ∀ (H : Heap) (locs : List Loc) (ls : Array Slot), va_P D classes (wld ct ad G y131.2) H → va_D A (wld ct ad G y131.2) → va_S A s.heap H locs → lv_has ls 7 [(6, .int y131.1), (5, .int y9.2), (4, .int y6.2), (3, .int x5), (2, .int x1), (0, .ref (ad a)), (1, .int p0)] → W p l e (headSpec wuX0_chooseByChance ({ frames := 6, cells := 0, slots := 0, locals := 162 })).room s m ([.ref (ad a), .int p0] : List Value).toArray below meth c H locs 0 0 (MQ below (va_Qv (fun (_ : Unit) => True) (fun _ t => kE D ct ad G A y t) A) ([.ref (ad a), .int p0] : List Value).toArray s 0 0 A) (F0 m 337 ls []) := by
                intro H locs ls hP hD hS hl
                refine lv_aload_n hx hb dX0_chooseByChance_337 rfl (lv_at hl 5 rfl) ?_
                refine lv_iload_n hx hb dX0_chooseByChance_338 rfl (lv_at hl 6 rfl) ?_
                refine lv_iload_n hx hb dX0_chooseByChance_339 rfl (lv_at hl 3 rfl) ?_
                refine lv_iload hx hb dX0_chooseByChance_340 (lv_at hl 0 rfl) ?_
                obtain ⟨y132, hy132, hF⟩ := bnd_some hF
                have hf9 := wA_in hD hA9 hS
                refine va_callv (va_runV (As := [.int p0, .int x5, .int y131.1]) (rest := []) ⟨hx, hb, hml, hown, hts⟩ (kX0_drawByLists l D ct ad Z G y131.2 H.size a p0 x5 y131.1 y132 hc hk hy132) (cwV 3 hts gX0_chooseByChance_X0_drawByLists rfl rfl rfl (by decide +kernel) ⟨Nat.le_of_ble_eq_true rfl, Nat.le_of_ble_eq_true rfl⟩) ⟨fun a U g mk q => by obtain ⟨q0, q1, qP, qK, qD, qZ, qN⟩ := q; exact ⟨q0, q1, qP, va_K.moved (u := U) (U := U.calling g mk a) (Vm.Alike.refl U.vm) qK, qD, sF.moved (u := U) (U := U.calling g mk a) (Vm.Alike.refl U.vm) qZ, nF.same rfl qN⟩, va_recv hK hP (ci := 0) (q0 := a) rfl (wld_o ct ad G y131.2 hc hk (by decide)), fun U hU hW => ⟨rfl, by rw [hU], by rw [hU]; exact hP, va_K.moved hW.alike hK, hD.weaken (fun _ _ _ _ => trivial), by rw [hU]; exact ((hZ.kept hS.2.1).narrow hf9).moved hW.alike, hN.warm hW⟩⟩ rfl rfl hl.1 rfl (lv_room (Nat.le_of_ble_eq_true rfl)) dX0_chooseByChance_342 ⟨(Nat.zero_le _), (Nat.zero_le _)⟩) hS (fun q _ h => hf9 q h) hf9 (fun u t H locs ht hvm hw hB hz1 hk1 hS => ?_)
                obtain ⟨hP, hK9, hD9⟩ := hB
                rw [ht] at hP
                have hD := hD9.weaken (fun _ q _ h => hf9 q.1 h)
                obtain rfl := Option.some.inj hF
                exact J125 _ _ _ hP hD hS (lv_sub hl [0, 1, 2, 3, 4, 5, 6] rfl)
              clear hF
              have hF := hy131
              clear hy131
              refine lv_if_ne (tgt := 302) hx hb dX0_chooseByChance_250 (by decide) (fun c133 => ?_) (fun c133 => ?_)
              · rw [if_neg c133] at hF
                refine lv_iload hx hb dX0_chooseByChance_302 (lv_at hl 1 rfl) ?_
                refine lv_iconst (v := (5 : Int32)) hx hb dX0_chooseByChance_304 (by decide) ?_
                obtain ⟨y134, hy134, hF⟩ := bnd_some hF
                have J134 : ∀ (H : Heap) (locs : List Loc) (ls : Array Slot), va_P D classes (wld ct ad G y134.2) H → va_D A (wld ct ad G y134.2) → va_S A s.heap H locs → lv_has ls 7 [(5, .int y9.2), (4, .int y6.2), (3, .int x5), (2, .int x1), (0, .ref (ad a)), (1, .int p0)] → W p l e (headSpec wuX0_chooseByChance ({ frames := 6, cells := 0, slots := 0, locals := 162 })).room s m ([.ref (ad a), .int p0] : List Value).toArray below meth c H locs 0 0 (MQ below (va_Qv (fun (_ : Unit) => True) (fun _ t => kE D ct ad G A y t) A) ([.ref (ad a), .int p0] : List Value).toArray s 0 0 A) (F0 m 335 ls [.int y134.1]) := by
                  intro H locs ls hP hD hS hl
                  refine lv_istore (lv' := [(6, .int y134.1), (5, .int y9.2), (4, .int y6.2), (3, .int x5), (2, .int x1), (0, .ref (ad a)), (1, .int p0)]) hx hb dX0_chooseByChance_335 hl (by decide) rfl (fun ls hl => ?_)
                  obtain rfl := Option.some.inj hF
                  exact J131 _ _ _ hP hD hS (lv_sub hl [0, 1, 2, 3, 4, 5, 6] rfl)
                clear hF
                have hF := hy134
                clear hy134
                refine lv_icmp_ge (tgt := 315) hx hb dX0_chooseByChance_305 (by decide) (fun c135 => ?_) (fun c135 => ?_)
                · rw [if_pos c135] at hF
                  refine lv_iload hx hb dX0_chooseByChance_315 (lv_at hl 1 rfl) ?_
                  refine lv_bipush (v := (12 : Int32)) hx hb dX0_chooseByChance_317 (by decide) ?_
                  obtain ⟨y136, hy136, hF⟩ := bnd_some hF
                  have J136 : ∀ (H : Heap) (locs : List Loc) (ls : Array Slot), va_P D classes (wld ct ad G y136.2) H → va_D A (wld ct ad G y136.2) → va_S A s.heap H locs → lv_has ls 7 [(5, .int y9.2), (4, .int y6.2), (3, .int x5), (2, .int x1), (0, .ref (ad a)), (1, .int p0)] → W p l e (headSpec wuX0_chooseByChance ({ frames := 6, cells := 0, slots := 0, locals := 162 })).room s m ([.ref (ad a), .int p0] : List Value).toArray below meth c H locs 0 0 (MQ below (va_Qv (fun (_ : Unit) => True) (fun _ t => kE D ct ad G A y t) A) ([.ref (ad a), .int p0] : List Value).toArray s 0 0 A) (F0 m 335 ls [.int y136.1]) := by
                    intro H locs ls hP hD hS hl
                    obtain rfl := Option.some.inj hF
                    exact J134 _ _ _ hP hD hS (lv_sub hl [0, 1, 2, 3, 4, 5] rfl)
                  clear hF
                  have hF := hy136
                  clear hy136
                  refine lv_icmp_ge (tgt := 333) hx hb dX0_chooseByChance_319 (by decide) (fun c137 => ?_) (fun c137 => ?_)
                  · rw [if_pos c137] at hF
                    refine lv_bipush (v := (22 : Int32)) hx hb dX0_chooseByChance_333 (by decide) ?_
                    obtain rfl := Option.some.inj hF
                    exact J136 _ _ _ hP hD hS (lv_sub hl [0, 1, 2, 3, 4, 5] rfl)
                  · rw [if_neg c137] at hF
                    refine lv_iconst (v := (1 : Int32)) hx hb dX0_chooseByChance_322 (by decide) ?_
                    refine lv_aload_n hx hb dX0_chooseByChance_323 rfl (lv_at hl 4 rfl) ?_
                    refine lv_bipush (v := (21 : Int32)) hx hb dX0_chooseByChance_324 (by decide) ?_
                    obtain ⟨y138, hy138, hF⟩ := bnd_some hF
                    have hf9 := wA_in hD hA9 hS
                    refine va_calli (va_runV (As := [.int (21 : Int32)]) (rest := [.int (1 : Int32)]) ⟨hx, hb, hml, hown, hts⟩ (kX0_draw l D ct ad Z G M130 H.size a ((21 : Int32)) y138 hc hk hy138) (cwV 1 hts gX0_chooseByChance_X0_draw rfl rfl rfl (by decide +kernel) ⟨Nat.le_of_ble_eq_true rfl, Nat.le_of_ble_eq_true rfl⟩) ⟨fun a U g mk q => by obtain ⟨q0, q1, qP, qK, qD, qZ, qN⟩ := q; exact ⟨q0, q1, qP, va_K.moved (u := U) (U := U.calling g mk a) (Vm.Alike.refl U.vm) qK, qD, sF.moved (u := U) (U := U.calling g mk a) (Vm.Alike.refl U.vm) qZ, nF.same rfl qN⟩, va_recv hK hP (ci := 0) (q0 := a) rfl (wld_o ct ad G M130 hc hk (by decide)), fun U hU hW => ⟨rfl, by rw [hU], by rw [hU]; exact hP, va_K.moved hW.alike hK, hD.weaken (fun _ _ _ _ => trivial), by rw [hU]; exact ((hZ.kept hS.2.1).narrow hf9).moved hW.alike, hN.warm hW⟩⟩ rfl rfl hl.1 rfl (lv_room (Nat.le_of_ble_eq_true rfl)) dX0_chooseByChance_326 ⟨(Nat.zero_le _), (Nat.zero_le _)⟩) hS (fun q _ h => hf9 q h) hf9 (fun r u t H locs ht hvm hw hB hz1 hk1 hS => ?_)
                    obtain ⟨hP, hK9, hD9⟩ := hB
                    rw [ht] at hP
                    try dsimp only at hw
                    subst hw
                    have hD := hD9.weaken (fun _ q _ h => hf9 q.1 h)
                    refine lv_iadd hx hb dX0_chooseByChance_329 ?_
                    obtain ⟨x139, ex139, hF⟩ := ltt_some hF
                    refine lv_topi (fun zx139 ezx139 => ?_)
                    obtain rfl : x139 = zx139 := ex139.trans ezx139.symm
                    refine lv_goto (tgt := 335) hx hb dX0_chooseByChance_330 (by decide) ?_
                    obtain rfl := Option.some.inj hF
                    exact J136 _ _ _ hP hD hS (lv_sub hl [0, 1, 2, 3, 4, 5] rfl)
                · rw [if_neg c135] at hF
                  refine lv_iload hx hb dX0_chooseByChance_308 (lv_at hl 1 rfl) ?_
                  refine lv_iconst (v := (4 : Int32)) hx hb dX0_chooseByChance_310 (by decide) ?_
                  refine lv_isub hx hb dX0_chooseByChance_311 ?_
                  obtain ⟨x140, ex140, hF⟩ := ltt_some hF
                  refine lv_topi (fun zx140 ezx140 => ?_)
                  obtain rfl : x140 = zx140 := ex140.trans ezx140.symm
                  refine lv_goto (tgt := 335) hx hb dX0_chooseByChance_312 (by decide) ?_
                  obtain rfl := Option.some.inj hF
                  exact J134 _ _ _ hP hD hS (lv_sub hl [0, 1, 2, 3, 4, 5] rfl)
              · rw [if_pos c133] at hF
                refine lv_iload hx hb dX0_chooseByChance_253 (lv_at hl 1 rfl) ?_
                refine lv_iconst (v := (3 : Int32)) hx hb dX0_chooseByChance_255 (by decide) ?_
                obtain ⟨y141, hy141, hF⟩ := bnd_some hF
                have J141 : ∀ (H : Heap) (locs : List Loc) (ls : Array Slot), va_P D classes (wld ct ad G M130) H → va_D A (wld ct ad G M130) → va_S A s.heap H locs → lv_has ls 7 [(5, .int y9.2), (4, .int y6.2), (3, .int x5), (2, .int x1), (0, .ref (ad a)), (1, .int p0)] → W p l e (headSpec wuX0_chooseByChance ({ frames := 6, cells := 0, slots := 0, locals := 162 })).room s m ([.ref (ad a), .int p0] : List Value).toArray below meth c H locs 0 0 (MQ below (va_Qv (fun (_ : Unit) => True) (fun _ t => kE D ct ad G A y t) A) ([.ref (ad a), .int p0] : List Value).toArray s 0 0 A) (F0 m 297 ls [.int y141]) := by
                  intro H locs ls hP hD hS hl
                  refine lv_istore (lv' := [(6, .int y141), (5, .int y9.2), (4, .int y6.2), (3, .int x5), (2, .int x1), (0, .ref (ad a)), (1, .int p0)]) hx hb dX0_chooseByChance_297 hl (by decide) rfl (fun ls hl => ?_)
                  refine lv_goto (tgt := 337) hx hb dX0_chooseByChance_299 (by decide) ?_
                  obtain rfl := Option.some.inj hF
                  exact J131 _ _ _ hP hD hS (lv_sub hl [0, 1, 2, 3, 4, 5, 6] rfl)
                clear hF
                have hF := hy141
                clear hy141
                refine lv_icmp_ne (tgt := 263) hx hb dX0_chooseByChance_256 (by decide) (fun c142 => ?_) (fun c142 => ?_)
                · rw [if_neg c142] at hF
                  refine lv_iload hx hb dX0_chooseByChance_263 (lv_at hl 1 rfl) ?_
                  refine lv_bipush (v := (7 : Int32)) hx hb dX0_chooseByChance_265 (by decide) ?_
                  obtain ⟨y143, hy143, hF⟩ := bnd_some hF
                  have J143 : ∀ (H : Heap) (locs : List Loc) (ls : Array Slot), va_P D classes (wld ct ad G M130) H → va_D A (wld ct ad G M130) → va_S A s.heap H locs → lv_has ls 7 [(5, .int y9.2), (4, .int y6.2), (3, .int x5), (2, .int x1), (0, .ref (ad a)), (1, .int p0)] → W p l e (headSpec wuX0_chooseByChance ({ frames := 6, cells := 0, slots := 0, locals := 162 })).room s m ([.ref (ad a), .int p0] : List Value).toArray below meth c H locs 0 0 (MQ below (va_Qv (fun (_ : Unit) => True) (fun _ t => kE D ct ad G A y t) A) ([.ref (ad a), .int p0] : List Value).toArray s 0 0 A) (F0 m 297 ls [.int y143]) := by
                    intro H locs ls hP hD hS hl
                    obtain rfl := Option.some.inj hF
                    exact J141 _ _ _ hP hD hS (lv_sub hl [0, 1, 2, 3, 4, 5] rfl)
                  clear hF
                  have hF := hy143
                  clear hy143
                  refine lv_icmp_ge (tgt := 274) hx hb dX0_chooseByChance_267 (by decide) (fun c144 => ?_) (fun c144 => ?_)
                  · rw [if_pos c144] at hF
                    refine lv_iload hx hb dX0_chooseByChance_274 (lv_at hl 1 rfl) ?_
                    refine lv_bipush (v := (9 : Int32)) hx hb dX0_chooseByChance_276 (by decide) ?_
                    obtain ⟨y145, hy145, hF⟩ := bnd_some hF
                    have J145 : ∀ (H : Heap) (locs : List Loc) (ls : Array Slot), va_P D classes (wld ct ad G M130) H → va_D A (wld ct ad G M130) → va_S A s.heap H locs → lv_has ls 7 [(5, .int y9.2), (4, .int y6.2), (3, .int x5), (2, .int x1), (0, .ref (ad a)), (1, .int p0)] → W p l e (headSpec wuX0_chooseByChance ({ frames := 6, cells := 0, slots := 0, locals := 162 })).room s m ([.ref (ad a), .int p0] : List Value).toArray below meth c H locs 0 0 (MQ below (va_Qv (fun (_ : Unit) => True) (fun _ t => kE D ct ad G A y t) A) ([.ref (ad a), .int p0] : List Value).toArray s 0 0 A) (F0 m 297 ls [.int y145]) := by
                      intro H locs ls hP hD hS hl
                      obtain rfl := Option.some.inj hF
                      exact J143 _ _ _ hP hD hS (lv_sub hl [0, 1, 2, 3, 4, 5] rfl)
                    clear hF
                    have hF := hy145
                    clear hy145
                    refine lv_icmp_ge (tgt := 285) hx hb dX0_chooseByChance_278 (by decide) (fun c146 => ?_) (fun c146 => ?_)
                    · rw [if_pos c146] at hF
                      refine lv_iload hx hb dX0_chooseByChance_285 (lv_at hl 1 rfl) ?_
                      refine lv_bipush (v := (11 : Int32)) hx hb dX0_chooseByChance_287 (by decide) ?_
                      obtain ⟨y147, hy147, hF⟩ := bnd_some hF
                      have J147 : ∀ (H : Heap) (locs : List Loc) (ls : Array Slot), va_P D classes (wld ct ad G M130) H → va_D A (wld ct ad G M130) → va_S A s.heap H locs → lv_has ls 7 [(5, .int y9.2), (4, .int y6.2), (3, .int x5), (2, .int x1), (0, .ref (ad a)), (1, .int p0)] → W p l e (headSpec wuX0_chooseByChance ({ frames := 6, cells := 0, slots := 0, locals := 162 })).room s m ([.ref (ad a), .int p0] : List Value).toArray below meth c H locs 0 0 (MQ below (va_Qv (fun (_ : Unit) => True) (fun _ t => kE D ct ad G A y t) A) ([.ref (ad a), .int p0] : List Value).toArray s 0 0 A) (F0 m 297 ls [.int y147]) := by
                        intro H locs ls hP hD hS hl
                        obtain rfl := Option.some.inj hF
                        exact J145 _ _ _ hP hD hS (lv_sub hl [0, 1, 2, 3, 4, 5] rfl)
                      clear hF
                      have hF := hy147
                      clear hy147
                      refine lv_icmp_ge (tgt := 296) hx hb dX0_chooseByChance_289 (by decide) (fun c148 => ?_) (fun c148 => ?_)
                      · rw [if_pos c148] at hF
                        refine lv_iconst (v := (3 : Int32)) hx hb dX0_chooseByChance_296 (by decide) ?_
                        obtain rfl := Option.some.inj hF
                        exact J147 _ _ _ hP hD hS (lv_sub hl [0, 1, 2, 3, 4, 5] rfl)
                      · rw [if_neg c148] at hF
                        refine lv_iconst (v := (2 : Int32)) hx hb dX0_chooseByChance_292 (by decide) ?_
                        refine lv_goto (tgt := 297) hx hb dX0_chooseByChance_293 (by decide) ?_
                        obtain rfl := Option.some.inj hF
                        exact J147 _ _ _ hP hD hS (lv_sub hl [0, 1, 2, 3, 4, 5] rfl)
                    · rw [if_neg c146] at hF
                      refine lv_iconst (v := (1 : Int32)) hx hb dX0_chooseByChance_281 (by decide) ?_
                      refine lv_goto (tgt := 297) hx hb dX0_chooseByChance_282 (by decide) ?_
                      obtain rfl := Option.some.inj hF
                      exact J145 _ _ _ hP hD hS (lv_sub hl [0, 1, 2, 3, 4, 5] rfl)
                  · rw [if_neg c144] at hF
                    refine lv_iconst (v := (0 : Int32)) hx hb dX0_chooseByChance_270 (by decide) ?_
                    refine lv_goto (tgt := 297) hx hb dX0_chooseByChance_271 (by decide) ?_
                    obtain rfl := Option.some.inj hF
                    exact J143 _ _ _ hP hD hS (lv_sub hl [0, 1, 2, 3, 4, 5] rfl)
                · rw [if_pos c142] at hF
                  refine lv_iconst (v := (-1 : Int32)) hx hb dX0_chooseByChance_259 (by decide) ?_
                  refine lv_goto (tgt := 297) hx hb dX0_chooseByChance_260 (by decide) ?_
                  obtain rfl := Option.some.inj hF
                  exact J141 _ _ _ hP hD hS (lv_sub hl [0, 1, 2, 3, 4, 5] rfl)
            · rw [if_pos c126] at hF
              refine lv_aload_n hx hb dX0_chooseByChance_158 rfl (lv_at hl 4 rfl) ?_
              refine va_get (D := D) (ci := 0) (v := va_re ad (y9.1.2 a 3)) (C := RX0) (T := TX0) (N := 21) hx hb hts (mus hf_X0) hown hK hP a (wld_o ct ad G y9.1 hc hk (by decide)) rfl 3 (by decide) (hts (.fieldLink RX0 36 "VideoSuite$Coder" "work" "LVideoSuite$Work;") (mu mw_817)) (fun _ h9 => h9) rfl dX0_chooseByChance_159 ?_
              obtain ⟨b149, ho149, hc149, hk149, hF⟩ := dr_some hF
              refine W_st (st' := [.ref (ad b149)]) (by rw [va_some ho149]) ?_
              refine va_get (D := D) (ci := 9) (v := va_re ad (y9.1.2 b149 6)) (C := RX9) (T := TX9) (N := 20) hx hb hts (mus hf_X9) hown hK hP b149 (wld_o ct ad G y9.1 hc149 hk149 (by decide)) rfl 6 (by decide) (hts (.fieldLink RX0 216 "VideoSuite$Work" "info" "[I") (mu mw_445)) (fun _ h9 => h9) rfl dX0_chooseByChance_162 ?_
              refine lv_iload_n hx hb dX0_chooseByChance_165 rfl (lv_at hl 3 rfl) ?_
              refine lv_iconst (v := (0 : Int32)) hx hb dX0_chooseByChance_166 (by decide) ?_
              refine lv_iadd hx hb dX0_chooseByChance_167 ?_
              obtain ⟨x150, ex150, hF⟩ := ltt_some hF
              refine lv_topi (fun zx150 ezx150 => ?_)
              obtain rfl : x150 = zx150 := ex150.trans ezx150.symm
              refine lv_iconst (v := (0 : Int32)) hx hb dX0_chooseByChance_168 (by decide) ?_
              obtain ⟨b151, ho151, hc151, hk151, hF⟩ := dr_some hF
              refine W_st (st' := [.int (0 : Int32), .int x150, .ref (ad b151)]) (by rw [va_some ho151]) ?_
              obtain ⟨hvc, hF⟩ := chk_some hF
              refine va_iast hx hb hK hP hD hS b151 1 (wld_i ct ad G y9.1 hc151 hk151) rfl hvc dX0_chooseByChance_169 (fun H locs hP hD hS => ?_)
              obtain ⟨M152, eM152, hF⟩ := ltt_some hF
              rw [set_i ct ad G y9.1 hc151 hk151, ← eM152] at hP hD
              refine lv_iconst (v := (0 : Int32)) hx hb dX0_chooseByChance_170 (by decide) ?_
              refine lv_istore (lv' := [(6, .int (0 : Int32)), (5, .int y9.2), (4, .int y6.2), (3, .int x5), (2, .int x1), (0, .ref (ad a)), (1, .int p0)]) hx hb dX0_chooseByChance_171 hl (by decide) rfl (fun ls hl => ?_)
              obtain ⟨y153, hy153, hF⟩ := bnd_some hF
              have K153 : ∀ (H : Heap) (locs : List Loc) (ls : Array Slot), va_P D classes (wld ct ad G y153.2) H → va_D A (wld ct ad G y153.2) → va_S A s.heap H locs → lv_has ls 7 [(6, .int y153.1), (5, .int y9.2), (4, .int y6.2), (3, .int x5), (2, .int x1), (0, .ref (ad a)), (1, .int p0)] → W p l e (headSpec wuX0_chooseByChance ({ frames := 6, cells := 0, slots := 0, locals := 162 })).room s m ([.ref (ad a), .int p0] : List Value).toArray below meth c H locs 0 0 (MQ below (va_Qv (fun (_ : Unit) => True) (fun _ t => kE D ct ad G A y t) A) ([.ref (ad a), .int p0] : List Value).toArray s 0 0 A) (F0 m 215 ls []) := by
                intro H locs ls hP hD hS hl
                refine lv_aload_n hx hb dX0_chooseByChance_215 rfl (lv_at hl 5 rfl) ?_
                refine va_get (D := D) (ci := 0) (v := va_re ad (y153.2.2 a 3)) (C := RX0) (T := TX0) (N := 21) hx hb hts (mus hf_X0) hown hK hP a (wld_o ct ad G y153.2 hc hk (by decide)) rfl 3 (by decide) (hts (.fieldLink RX0 36 "VideoSuite$Coder" "work" "LVideoSuite$Work;") (mu mw_817)) (fun _ h9 => h9) rfl dX0_chooseByChance_216 ?_
                obtain ⟨b156, ho156, hc156, hk156, hF⟩ := dr_some hF
                refine W_st (st' := [.ref (ad b156)]) (by rw [va_some ho156]) ?_
                refine va_get (D := D) (ci := 9) (v := va_re ad (y153.2.2 b156 6)) (C := RX9) (T := TX9) (N := 20) hx hb hts (mus hf_X9) hown hK hP b156 (wld_o ct ad G y153.2 hc156 hk156 (by decide)) rfl 6 (by decide) (hts (.fieldLink RX0 216 "VideoSuite$Work" "info" "[I") (mu mw_445)) (fun _ h9 => h9) rfl dX0_chooseByChance_219 ?_
                refine lv_iload_n hx hb dX0_chooseByChance_222 rfl (lv_at hl 4 rfl) ?_
                refine lv_iconst (v := (5 : Int32)) hx hb dX0_chooseByChance_223 (by decide) ?_
                refine lv_iadd hx hb dX0_chooseByChance_224 ?_
                obtain ⟨x157, ex157, hF⟩ := ltt_some hF
                refine lv_topi (fun zx157 ezx157 => ?_)
                obtain rfl : x157 = zx157 := ex157.trans ezx157.symm
                refine lv_aload_n hx hb dX0_chooseByChance_225 rfl (lv_at hl 5 rfl) ?_
                refine lv_iconst (v := (-1 : Int32)) hx hb dX0_chooseByChance_226 (by decide) ?_
                refine lv_iconst (v := (4 : Int32)) hx hb dX0_chooseByChance_227 (by decide) ?_
                refine lv_iload hx hb dX0_chooseByChance_228 (lv_at hl 1 rfl) ?_
                obtain ⟨y158, hy158, hF⟩ := bnd_some hF
                have hf9 := wA_in hD hA9 hS
                refine va_calli (va_runV (As := [.int (-1 : Int32), .int (4 : Int32), .int y9.2]) (rest := [.int x157, va_re ad (y153.2.2 b156 6)]) ⟨hx, hb, hml, hown, hts⟩ (kX0_drawMode l D ct ad Z G y153.2 H.size a ((-1 : Int32)) ((4 : Int32)) y9.2 y158 hc hk hy158) (cwV 3 hts gX0_chooseByChance_X0_drawMode rfl rfl rfl (by decide +kernel) ⟨Nat.le_of_ble_eq_true rfl, Nat.le_of_ble_eq_true rfl⟩) ⟨fun a U g mk q => by obtain ⟨q0, q1, qP, qK, qD, qZ, qN⟩ := q; exact ⟨q0, q1, qP, va_K.moved (u := U) (U := U.calling g mk a) (Vm.Alike.refl U.vm) qK, qD, sF.moved (u := U) (U := U.calling g mk a) (Vm.Alike.refl U.vm) qZ, nF.same rfl qN⟩, va_recv hK hP (ci := 0) (q0 := a) rfl (wld_o ct ad G y153.2 hc hk (by decide)), fun U hU hW => ⟨rfl, by rw [hU], by rw [hU]; exact hP, va_K.moved hW.alike hK, hD.weaken (fun _ _ _ _ => trivial), by rw [hU]; exact ((hZ.kept hS.2.1).narrow hf9).moved hW.alike, hN.warm hW⟩⟩ rfl rfl hl.1 rfl (lv_room (by simp only [List.map, va_re_cat]; exact Nat.le_of_ble_eq_true rfl)) dX0_chooseByChance_230 ⟨(Nat.zero_le _), (Nat.zero_le _)⟩) hS (fun q _ h => hf9 q h) hf9 (fun r u t H locs ht hvm hw hB hz1 hk1 hS => ?_)
                obtain ⟨hP, hK9, hD9⟩ := hB
                rw [ht] at hP
                try dsimp only at hw
                subst hw
                have hD := hD9.weaken (fun _ q _ h => hf9 q.1 h)
                obtain ⟨b159, ho159, hc159, hk159, hF⟩ := dr_some hF
                refine W_st (st' := [.int y158.2, .int x157, .ref (ad b159)]) (by rw [va_some ho159]) ?_
                obtain ⟨hvc, hF⟩ := chk_some hF
                refine va_iast hx hb hK hP hD hS b159 1 (wld_i ct ad G y158.1 hc159 hk159) rfl hvc dX0_chooseByChance_233 (fun H locs hP hD hS => ?_)
                obtain ⟨M160, eM160, hF⟩ := ltt_some hF
                rw [set_i ct ad G y158.1 hc159 hk159, ← eM160] at hP hD
                refine lv_goto (tgt := 345) hx hb dX0_chooseByChance_234 (by decide) ?_
                obtain rfl := Option.some.inj hF
                exact J125 _ _ _ hP hD hS (lv_sub hl [0, 1, 2, 3, 4, 5, 6] rfl)
              clear hF
              refine itr_rule (fun (s154 : Int32 × DD) => ∀ (H : Heap) (locs : List Loc) (ls : Array Slot), va_P D classes (wld ct ad G s154.2) H → va_D A (wld ct ad G s154.2) → va_S A s.heap H locs → lv_has ls 7 [(6, .int s154.1), (5, .int y9.2), (4, .int y6.2), (3, .int x5), (2, .int x1), (0, .ref (ad a)), (1, .int p0)] → W p l e (headSpec wuX0_chooseByChance ({ frames := 6, cells := 0, slots := 0, locals := 162 })).room s m ([.ref (ad a), .int p0] : List Value).toArray below meth c H locs 0 0 (MQ below (va_Qv (fun (_ : Unit) => True) (fun _ t => kE D ct ad G A y t) A) ([.ref (ad a), .int p0] : List Value).toArray s 0 0 A) (F0 m 173 ls [])) ?_ _ _ hy153 _ _ _ hP hD hS (lv_sub hl [0, 1, 2, 3, 4, 5, 6] rfl)
              rintro s154 ⟨z161, hF, hwz161⟩ H locs ls hP hD hS hl
              try dsimp only at hF
              refine lv_iload hx hb dX0_chooseByChance_173 (lv_at hl 0 rfl) ?_
              refine lv_bipush (v := (16 : Int32)) hx hb dX0_chooseByChance_175 (by decide) ?_
              refine lv_icmp_ge (tgt := 215) hx hb dX0_chooseByChance_177 (by decide) (fun c162 => ?_) (fun c162 => ?_)
              · rw [if_pos c162] at hF
                obtain rfl := Option.some.inj hF
                subst hwz161
                exact K153 _ _ _ hP hD hS (lv_sub hl [0, 1, 2, 3, 4, 5, 6] rfl)
              · rw [if_neg c162] at hF
                refine lv_aload_n hx hb dX0_chooseByChance_180 rfl (lv_at hl 5 rfl) ?_
                refine va_get (D := D) (ci := 0) (v := va_re ad (s154.2.2 a 3)) (C := RX0) (T := TX0) (N := 21) hx hb hts (mus hf_X0) hown hK hP a (wld_o ct ad G s154.2 hc hk (by decide)) rfl 3 (by decide) (hts (.fieldLink RX0 36 "VideoSuite$Coder" "work" "LVideoSuite$Work;") (mu mw_817)) (fun _ h9 => h9) rfl dX0_chooseByChance_181 ?_
                obtain ⟨b163, ho163, hc163, hk163, hF⟩ := dr_some hF
                refine W_st (st' := [.ref (ad b163)]) (by rw [va_some ho163]) ?_
                refine va_get (D := D) (ci := 9) (v := va_re ad (s154.2.2 b163 7)) (C := RX9) (T := TX9) (N := 20) hx hb hts (mus hf_X9) hown hK hP b163 (wld_o ct ad G s154.2 hc163 hk163 (by decide)) rfl 7 (by decide) (hts (.fieldLink RX0 356 "VideoSuite$Work" "mode" "[I") (mu mw_448)) (fun _ h9 => h9) rfl dX0_chooseByChance_184 ?_
                refine lv_bipush (v := (16 : Int32)) hx hb dX0_chooseByChance_187 (by decide) ?_
                refine lv_iload_n hx hb dX0_chooseByChance_189 rfl (lv_at hl 6 rfl) ?_
                refine lv_imul hx hb dX0_chooseByChance_190 ?_
                obtain ⟨x164, ex164, hF⟩ := ltt_some hF
                refine lv_topi (fun zx164 ezx164 => ?_)
                obtain rfl : x164 = zx164 := ex164.trans ezx164.symm
                refine lv_iload hx hb dX0_chooseByChance_191 (lv_at hl 0 rfl) ?_
                refine lv_iadd hx hb dX0_chooseByChance_193 ?_
                obtain ⟨x165, ex165, hF⟩ := ltt_some hF
                refine lv_topi (fun zx165 ezx165 => ?_)
                obtain rfl : x165 = zx165 := ex165.trans ezx165.symm
                refine lv_aload_n hx hb dX0_chooseByChance_194 rfl (lv_at hl 5 rfl) ?_
                refine lv_iconst (v := (0 : Int32)) hx hb dX0_chooseByChance_195 (by decide) ?_
                refine lv_bipush (v := (9 : Int32)) hx hb dX0_chooseByChance_196 (by decide) ?_
                refine lv_iload hx hb dX0_chooseByChance_198 (lv_at hl 0 rfl) ?_
                refine lv_iload hx hb dX0_chooseByChance_200 (lv_at hl 1 rfl) ?_
                obtain ⟨y166, hy166, hF⟩ := bnd_some hF
                have hf9 := wA_in hD hA9 hS
                refine va_calli (va_runS (As := [.int s154.1, .int y9.2]) (rest := [.int (9 : Int32), .int (0 : Int32), .ref (ad a), .int x165, va_re ad (s154.2.2 b163 7)]) ⟨hx, hb, hml, hown, hts⟩ (kX9_sidesOf l D ct ad Z G s154.2 H.size s154.1 y9.2 y166 hy166) (va_cwS 2 hts gX0_chooseByChance_X9_sidesOf rfl rfl rfl (by decide +kernel) ⟨Nat.le_of_ble_eq_true rfl, Nat.le_of_ble_eq_true rfl⟩) ⟨fun a U g mk q => by obtain ⟨q0, q1, qP, qK, qD, qZ, qN⟩ := q; exact ⟨q0, q1, qP, va_K.moved (u := U) (U := U.calling g mk a) (Vm.Alike.refl U.vm) qK, qD, sF.moved (u := U) (U := U.calling g mk a) (Vm.Alike.refl U.vm) qZ, nF.same rfl qN⟩, fun U hU hW => ⟨rfl, by rw [hU], by rw [hU]; exact hP, va_K.moved hW.alike hK, hD.weaken (fun _ _ _ _ => trivial), by rw [hU]; exact ((hZ.kept hS.2.1).narrow hf9).moved hW.alike, hN.warm hW⟩⟩ rfl rfl hl.1 rfl (lv_room (by simp only [List.map, va_re_cat]; exact Nat.le_of_ble_eq_true rfl)) dX0_chooseByChance_202 ⟨(Nat.zero_le _), (Nat.zero_le _)⟩) hS (fun q _ h => hf9 q h) hf9 (fun r u t H locs ht hvm hw hB hz1 hk1 hS => ?_)
                obtain ⟨hP, hK9, hD9⟩ := hB
                rw [ht] at hP
                try dsimp only at hw
                subst hw
                have hD := hD9.weaken (fun _ q _ h => hf9 q.1 h)
                obtain ⟨y167, hy167, hF⟩ := bnd_some hF
                have hf9 := wA_in hD hA9 hS
                refine va_calli (va_runV (As := [.int (0 : Int32), .int (9 : Int32), .int y166.2]) (rest := [.int x165, va_re ad (s154.2.2 b163 7)]) ⟨hx, hb, hml, hown, hts⟩ (kX0_drawMode l D ct ad Z G y166.1 H.size a ((0 : Int32)) ((9 : Int32)) y166.2 y167 hc hk hy167) (cwV 3 hts gX0_chooseByChance_X0_drawMode rfl rfl rfl (by decide +kernel) ⟨Nat.le_of_ble_eq_true rfl, Nat.le_of_ble_eq_true rfl⟩) ⟨fun a U g mk q => by obtain ⟨q0, q1, qP, qK, qD, qZ, qN⟩ := q; exact ⟨q0, q1, qP, va_K.moved (u := U) (U := U.calling g mk a) (Vm.Alike.refl U.vm) qK, qD, sF.moved (u := U) (U := U.calling g mk a) (Vm.Alike.refl U.vm) qZ, nF.same rfl qN⟩, va_recv hK hP (ci := 0) (q0 := a) rfl (wld_o ct ad G y166.1 hc hk (by decide)), fun U hU hW => ⟨rfl, by rw [hU], by rw [hU]; exact hP, va_K.moved hW.alike hK, hD.weaken (fun _ _ _ _ => trivial), by rw [hU]; exact ((hZ.kept hS.2.1).narrow hf9).moved hW.alike, hN.warm hW⟩⟩ rfl rfl hl.1 rfl (lv_room (by simp only [List.map, va_re_cat]; exact Nat.le_of_ble_eq_true rfl)) dX0_chooseByChance_205 ⟨(Nat.zero_le _), (Nat.zero_le _)⟩) hS (fun q _ h => hf9 q h) hf9 (fun r u t H locs ht hvm hw hB hz1 hk1 hS => ?_)
                obtain ⟨hP, hK9, hD9⟩ := hB
                rw [ht] at hP
                try dsimp only at hw
                subst hw
                have hD := hD9.weaken (fun _ q _ h => hf9 q.1 h)
                obtain ⟨b168, ho168, hc168, hk168, hF⟩ := dr_some hF
                refine W_st (st' := [.int y167.2, .int x165, .ref (ad b168)]) (by rw [va_some ho168]) ?_
                obtain ⟨hvc, hF⟩ := chk_some hF
                refine va_iast hx hb hK hP hD hS b168 1 (wld_i ct ad G y167.1 hc168 hk168) rfl hvc dX0_chooseByChance_208 (fun H locs hP hD hS => ?_)
                obtain ⟨M169, eM169, hF⟩ := ltt_some hF
                rw [set_i ct ad G y167.1 hc168 hk168, ← eM169] at hP hD
                obtain ⟨x170, ex170, hF⟩ := ltt_some hF
                refine lv_iinc (v := x170) (lv' := [(6, .int x170), (5, .int y9.2), (4, .int y6.2), (3, .int x5), (2, .int x1), (0, .ref (ad a)), (1, .int p0)]) hx hb dX0_chooseByChance_209 hl (k := 0) rfl (by rw [ex170]; rfl) (by decide) rfl (fun ls hl => ?_)
                refine lv_goto (tgt := 173) hx hb dX0_chooseByChance_212 (by decide) ?_
                obtain rfl := Option.some.inj hF
                exact hwz161 _ _ _ hP hD hS (lv_sub hl [0, 1, 2, 3, 4, 5, 6] rfl)
        · rw [if_neg c100] at hF
          refine lv_aload_n hx hb dX0_chooseByChance_84 rfl (lv_at hl 4 rfl) ?_
          refine va_get (D := D) (ci := 0) (v := va_re ad (y9.1.2 a 3)) (C := RX0) (T := TX0) (N := 21) hx hb hts (mus hf_X0) hown hK hP a (wld_o ct ad G y9.1 hc hk (by decide)) rfl 3 (by decide) (hts (.fieldLink RX0 36 "VideoSuite$Coder" "work" "LVideoSuite$Work;") (mu mw_817)) (fun _ h9 => h9) rfl dX0_chooseByChance_85 ?_
          obtain ⟨b171, ho171, hc171, hk171, hF⟩ := dr_some hF
          refine W_st (st' := [.ref (ad b171)]) (by rw [va_some ho171]) ?_
          refine va_get (D := D) (ci := 9) (v := va_re ad (y9.1.2 b171 6)) (C := RX9) (T := TX9) (N := 20) hx hb hts (mus hf_X9) hown hK hP b171 (wld_o ct ad G y9.1 hc171 hk171 (by decide)) rfl 6 (by decide) (hts (.fieldLink RX0 216 "VideoSuite$Work" "info" "[I") (mu mw_445)) (fun _ h9 => h9) rfl dX0_chooseByChance_88 ?_
          refine lv_iload_n hx hb dX0_chooseByChance_91 rfl (lv_at hl 3 rfl) ?_
          refine lv_iconst (v := (0 : Int32)) hx hb dX0_chooseByChance_92 (by decide) ?_
          refine lv_iadd hx hb dX0_chooseByChance_93 ?_
          obtain ⟨x172, ex172, hF⟩ := ltt_some hF
          refine lv_topi (fun zx172 ezx172 => ?_)
          obtain rfl : x172 = zx172 := ex172.trans ezx172.symm
          refine lv_iconst (v := (1 : Int32)) hx hb dX0_chooseByChance_94 (by decide) ?_
          obtain ⟨b173, ho173, hc173, hk173, hF⟩ := dr_some hF
          refine W_st (st' := [.int (1 : Int32), .int x172, .ref (ad b173)]) (by rw [va_some ho173]) ?_
          obtain ⟨hvc, hF⟩ := chk_some hF
          refine va_iast hx hb hK hP hD hS b173 1 (wld_i ct ad G y9.1 hc173 hk173) rfl hvc dX0_chooseByChance_95 (fun H locs hP hD hS => ?_)
          obtain ⟨M174, eM174, hF⟩ := ltt_some hF
          rw [set_i ct ad G y9.1 hc173 hk173, ← eM174] at hP hD
          refine lv_aload_n hx hb dX0_chooseByChance_96 rfl (lv_at hl 4 rfl) ?_
          refine va_get (D := D) (ci := 0) (v := va_re ad (M174.2 a 3)) (C := RX0) (T := TX0) (N := 21) hx hb hts (mus hf_X0) hown hK hP a (wld_o ct ad G M174 hc hk (by decide)) rfl 3 (by decide) (hts (.fieldLink RX0 36 "VideoSuite$Coder" "work" "LVideoSuite$Work;") (mu mw_817)) (fun _ h9 => h9) rfl dX0_chooseByChance_97 ?_
          obtain ⟨b175, ho175, hc175, hk175, hF⟩ := dr_some hF
          refine W_st (st' := [.ref (ad b175)]) (by rw [va_some ho175]) ?_
          refine va_get (D := D) (ci := 9) (v := va_re ad (M174.2 b175 7)) (C := RX9) (T := TX9) (N := 20) hx hb hts (mus hf_X9) hown hK hP b175 (wld_o ct ad G M174 hc175 hk175 (by decide)) rfl 7 (by decide) (hts (.fieldLink RX0 356 "VideoSuite$Work" "mode" "[I") (mu mw_448)) (fun _ h9 => h9) rfl dX0_chooseByChance_100 ?_
          refine lv_bipush (v := (16 : Int32)) hx hb dX0_chooseByChance_103 (by decide) ?_
          refine lv_iload_n hx hb dX0_chooseByChance_105 rfl (lv_at hl 5 rfl) ?_
          refine lv_imul hx hb dX0_chooseByChance_106 ?_
          obtain ⟨x176, ex176, hF⟩ := ltt_some hF
          refine lv_topi (fun zx176 ezx176 => ?_)
          obtain rfl : x176 = zx176 := ex176.trans ezx176.symm
          refine lv_bipush (v := (16 : Int32)) hx hb dX0_chooseByChance_107 (by decide) ?_
          refine lv_iload_n hx hb dX0_chooseByChance_109 rfl (lv_at hl 5 rfl) ?_
          refine lv_imul hx hb dX0_chooseByChance_110 ?_
          obtain ⟨x177, ex177, hF⟩ := ltt_some hF
          refine lv_topi (fun zx177 ezx177 => ?_)
          obtain rfl : x177 = zx177 := ex177.trans ezx177.symm
          refine lv_bipush (v := (16 : Int32)) hx hb dX0_chooseByChance_111 (by decide) ?_
          refine lv_iadd hx hb dX0_chooseByChance_113 ?_
          obtain ⟨x178, ex178, hF⟩ := ltt_some hF
          refine lv_topi (fun zx178 ezx178 => ?_)
          obtain rfl : x178 = zx178 := ex178.trans ezx178.symm
          refine lv_aload_n hx hb dX0_chooseByChance_114 rfl (lv_at hl 4 rfl) ?_
          refine lv_iconst (v := (1 : Int32)) hx hb dX0_chooseByChance_115 (by decide) ?_
          refine lv_iconst (v := (4 : Int32)) hx hb dX0_chooseByChance_116 (by decide) ?_
          refine lv_iload hx hb dX0_chooseByChance_117 (lv_at hl 0 rfl) ?_
          obtain ⟨y179, hy179, hF⟩ := bnd_some hF
          have hf9 := wA_in hD hA9 hS
          refine va_calli (va_runV (As := [.int (1 : Int32), .int (4 : Int32), .int y9.2]) (rest := [.int x178, .int x176, va_re ad (M174.2 b175 7)]) ⟨hx, hb, hml, hown, hts⟩ (kX0_drawMode l D ct ad Z G M174 H.size a ((1 : Int32)) ((4 : Int32)) y9.2 y179 hc hk hy179) (cwV 3 hts gX0_chooseByChance_X0_drawMode rfl rfl rfl (by decide +kernel) ⟨Nat.le_of_ble_eq_true rfl, Nat.le_of_ble_eq_true rfl⟩) ⟨fun a U g mk q => by obtain ⟨q0, q1, qP, qK, qD, qZ, qN⟩ := q; exact ⟨q0, q1, qP, va_K.moved (u := U) (U := U.calling g mk a) (Vm.Alike.refl U.vm) qK, qD, sF.moved (u := U) (U := U.calling g mk a) (Vm.Alike.refl U.vm) qZ, nF.same rfl qN⟩, va_recv hK hP (ci := 0) (q0 := a) rfl (wld_o ct ad G M174 hc hk (by decide)), fun U hU hW => ⟨rfl, by rw [hU], by rw [hU]; exact hP, va_K.moved hW.alike hK, hD.weaken (fun _ _ _ _ => trivial), by rw [hU]; exact ((hZ.kept hS.2.1).narrow hf9).moved hW.alike, hN.warm hW⟩⟩ rfl rfl hl.1 rfl (lv_room (by simp only [List.map, va_re_cat]; exact Nat.le_of_ble_eq_true rfl)) dX0_chooseByChance_119 ⟨(Nat.zero_le _), (Nat.zero_le _)⟩) hS (fun q _ h => hf9 q h) hf9 (fun r u t H locs ht hvm hw hB hz1 hk1 hS => ?_)
          obtain ⟨hP, hK9, hD9⟩ := hB
          rw [ht] at hP
          try dsimp only at hw
          subst hw
          have hD := hD9.weaken (fun _ q _ h => hf9 q.1 h)
          obtain ⟨y180, hy180, hF⟩ := bnd_some hF
          have hf9 := wA_in hD hA9 hS
          refine va_callv (va_runS (As := [va_re ad (M174.2 b175 7), .int x176, .int x178, .int y179.2]) (rest := []) ⟨hx, hb, hml, hown, hts⟩ (kJ7_fill_fda19 l D ct ad Z G y179.1 H.size ((M174.2 b175 7)) x176 x178 y179.2 y180 hy180) (va_cwS 4 hts gX0_chooseByChance_J7_fill_fda19 rfl rfl rfl (by decide +kernel) ⟨Nat.le_of_ble_eq_true rfl, Nat.le_of_ble_eq_true rfl⟩) ⟨fun a U g mk q => by obtain ⟨q0, q1, qP, qK, qD, qZ, qN⟩ := q; exact ⟨q0, q1, qP, va_K.moved (u := U) (U := U.calling g mk a) (Vm.Alike.refl U.vm) qK, qD, sF.moved (u := U) (U := U.calling g mk a) (Vm.Alike.refl U.vm) qZ, nF.same rfl qN⟩, fun U hU hW => ⟨rfl, by rw [hU], by rw [hU]; exact hP, va_K.moved hW.alike hK, hD.weaken (fun _ _ _ _ => trivial), by rw [hU]; exact ((hZ.kept hS.2.1).narrow hf9).moved hW.alike, hN.warm hW⟩⟩ rfl rfl hl.1 rfl (lv_room (Nat.le_of_ble_eq_true rfl)) dX0_chooseByChance_122 ⟨(Nat.zero_le _), (Nat.zero_le _)⟩) hS (fun q _ h => hf9 q h) hf9 (fun u t H locs ht hvm hw hB hz1 hk1 hS => ?_)
          obtain ⟨hP, hK9, hD9⟩ := hB
          rw [ht] at hP
          have hD := hD9.weaken (fun _ q _ h => hf9 q.1 h)
          refine lv_aload_n hx hb dX0_chooseByChance_125 rfl (lv_at hl 4 rfl) ?_
          refine va_get (D := D) (ci := 0) (v := va_re ad (y180.2 a 3)) (C := RX0) (T := TX0) (N := 21) hx hb hts (mus hf_X0) hown hK hP a (wld_o ct ad G y180 hc hk (by decide)) rfl 3 (by decide) (hts (.fieldLink RX0 36 "VideoSuite$Coder" "work" "LVideoSuite$Work;") (mu mw_817)) (fun _ h9 => h9) rfl dX0_chooseByChance_126 ?_
          obtain ⟨b181, ho181, hc181, hk181, hF⟩ := dr_some hF
          refine W_st (st' := [.ref (ad b181)]) (by rw [va_some ho181]) ?_
          refine va_get (D := D) (ci := 9) (v := va_re ad (y180.2 b181 6)) (C := RX9) (T := TX9) (N := 20) hx hb hts (mus hf_X9) hown hK hP b181 (wld_o ct ad G y180 hc181 hk181 (by decide)) rfl 6 (by decide) (hts (.fieldLink RX0 216 "VideoSuite$Work" "info" "[I") (mu mw_445)) (fun _ h9 => h9) rfl dX0_chooseByChance_129 ?_
          refine lv_iload_n hx hb dX0_chooseByChance_132 rfl (lv_at hl 3 rfl) ?_
          refine lv_iconst (v := (5 : Int32)) hx hb dX0_chooseByChance_133 (by decide) ?_
          refine lv_iadd hx hb dX0_chooseByChance_134 ?_
          obtain ⟨x182, ex182, hF⟩ := ltt_some hF
          refine lv_topi (fun zx182 ezx182 => ?_)
          obtain rfl : x182 = zx182 := ex182.trans ezx182.symm
          refine lv_aload_n hx hb dX0_chooseByChance_135 rfl (lv_at hl 4 rfl) ?_
          refine lv_iconst (v := (-1 : Int32)) hx hb dX0_chooseByChance_136 (by decide) ?_
          refine lv_iconst (v := (4 : Int32)) hx hb dX0_chooseByChance_137 (by decide) ?_
          refine lv_iload hx hb dX0_chooseByChance_138 (lv_at hl 0 rfl) ?_
          obtain ⟨y183, hy183, hF⟩ := bnd_some hF
          have hf9 := wA_in hD hA9 hS
          refine va_calli (va_runV (As := [.int (-1 : Int32), .int (4 : Int32), .int y9.2]) (rest := [.int x182, va_re ad (y180.2 b181 6)]) ⟨hx, hb, hml, hown, hts⟩ (kX0_drawMode l D ct ad Z G y180 H.size a ((-1 : Int32)) ((4 : Int32)) y9.2 y183 hc hk hy183) (cwV 3 hts gX0_chooseByChance_X0_drawMode rfl rfl rfl (by decide +kernel) ⟨Nat.le_of_ble_eq_true rfl, Nat.le_of_ble_eq_true rfl⟩) ⟨fun a U g mk q => by obtain ⟨q0, q1, qP, qK, qD, qZ, qN⟩ := q; exact ⟨q0, q1, qP, va_K.moved (u := U) (U := U.calling g mk a) (Vm.Alike.refl U.vm) qK, qD, sF.moved (u := U) (U := U.calling g mk a) (Vm.Alike.refl U.vm) qZ, nF.same rfl qN⟩, va_recv hK hP (ci := 0) (q0 := a) rfl (wld_o ct ad G y180 hc hk (by decide)), fun U hU hW => ⟨rfl, by rw [hU], by rw [hU]; exact hP, va_K.moved hW.alike hK, hD.weaken (fun _ _ _ _ => trivial), by rw [hU]; exact ((hZ.kept hS.2.1).narrow hf9).moved hW.alike, hN.warm hW⟩⟩ rfl rfl hl.1 rfl (lv_room (by simp only [List.map, va_re_cat]; exact Nat.le_of_ble_eq_true rfl)) dX0_chooseByChance_140 ⟨(Nat.zero_le _), (Nat.zero_le _)⟩) hS (fun q _ h => hf9 q h) hf9 (fun r u t H locs ht hvm hw hB hz1 hk1 hS => ?_)
          obtain ⟨hP, hK9, hD9⟩ := hB
          rw [ht] at hP
          try dsimp only at hw
          subst hw
          have hD := hD9.weaken (fun _ q _ h => hf9 q.1 h)
          obtain ⟨b184, ho184, hc184, hk184, hF⟩ := dr_some hF
          refine W_st (st' := [.int y183.2, .int x182, .ref (ad b184)]) (by rw [va_some ho184]) ?_
          obtain ⟨hvc, hF⟩ := chk_some hF
          refine va_iast hx hb hK hP hD hS b184 1 (wld_i ct ad G y183.1 hc184 hk184) rfl hvc dX0_chooseByChance_143 (fun H locs hP hD hS => ?_)
          obtain ⟨M185, eM185, hF⟩ := ltt_some hF
          rw [set_i ct ad G y183.1 hc184 hk184, ← eM185] at hP hD
          refine lv_goto (tgt := 345) hx hb dX0_chooseByChance_144 (by decide) ?_
          obtain rfl := Option.some.inj hF
          exact J99 _ _ _ hP hD hS (lv_sub hl [0, 1, 2, 3, 4, 5] rfl)
  · rw [if_pos c7] at hF
    refine lv_aload_n hx hb dX0_chooseByChance_31 rfl (lv_at hl 3 rfl) ?_
    refine lv_bipush (v := (8 : Int32)) hx hb dX0_chooseByChance_32 (by decide) ?_
    obtain ⟨y186, hy186, hF⟩ := bnd_some hF
    have hf9 := wA_in hD hA9 hS
    refine va_calli (va_runV (As := [.int (8 : Int32)]) (rest := []) ⟨hx, hb, hml, hown, hts⟩ (kX0_draw l D ct ad Z G y6.1 H.size a ((8 : Int32)) y186 hc hk hy186) (cwV 1 hts gX0_chooseByChance_X0_draw rfl rfl rfl (by decide +kernel) ⟨Nat.le_of_ble_eq_true rfl, Nat.le_of_ble_eq_true rfl⟩) ⟨fun a U g mk q => by obtain ⟨q0, q1, qP, qK, qD, qZ, qN⟩ := q; exact ⟨q0, q1, qP, va_K.moved (u := U) (U := U.calling g mk a) (Vm.Alike.refl U.vm) qK, qD, sF.moved (u := U) (U := U.calling g mk a) (Vm.Alike.refl U.vm) qZ, nF.same rfl qN⟩, va_recv hK hP (ci := 0) (q0 := a) rfl (wld_o ct ad G y6.1 hc hk (by decide)), fun U hU hW => ⟨rfl, by rw [hU], by rw [hU]; exact hP, va_K.moved hW.alike hK, hD.weaken (fun _ _ _ _ => trivial), by rw [hU]; exact ((hZ.kept hS.2.1).narrow hf9).moved hW.alike, hN.warm hW⟩⟩ rfl rfl hl.1 rfl (lv_room (Nat.le_of_ble_eq_true rfl)) dX0_chooseByChance_34 ⟨(Nat.zero_le _), (Nat.zero_le _)⟩) hS (fun q _ h => hf9 q h) hf9 (fun r u t H locs ht hvm hw hB hz1 hk1 hS => ?_)
    obtain ⟨hP, hK9, hD9⟩ := hB
    rw [ht] at hP
    try dsimp only at hw
    subst hw
    have hD := hD9.weaken (fun _ q _ h => hf9 q.1 h)
    refine lv_if_ne (tgt := 53) hx hb dX0_chooseByChance_37 (by decide) (fun c187 => ?_) (fun c187 => ?_)
    · rw [if_neg c187] at hF
      refine lv_iconst (v := (1 : Int32)) hx hb dX0_chooseByChance_53 (by decide) ?_
      refine lv_istore (lv' := [(4, .int (1 : Int32)), (3, .int x5), (2, .int x1), (0, .ref (ad a)), (1, .int p0)]) hx hb dX0_chooseByChance_54 hl (by decide) rfl (fun ls hl => ?_)
      refine lv_aload_n hx hb dX0_chooseByChance_56 rfl (lv_at hl 3 rfl) ?_
      refine va_get (D := D) (ci := 0) (v := va_re ad (y186.1.2 a 3)) (C := RX0) (T := TX0) (N := 21) hx hb hts (mus hf_X0) hown hK hP a (wld_o ct ad G y186.1 hc hk (by decide)) rfl 3 (by decide) (hts (.fieldLink RX0 36 "VideoSuite$Coder" "work" "LVideoSuite$Work;") (mu mw_817)) (fun _ h9 => h9) rfl dX0_chooseByChance_57 ?_
      refine lv_iload_n hx hb dX0_chooseByChance_60 rfl (lv_at hl 4 rfl) ?_
      obtain ⟨b188, ho188, hc188, hk188, hF⟩ := dr_some hF
      refine W_st (st' := [.int p0, .ref (ad b188)]) (by rw [va_some ho188]) ?_
      obtain ⟨y189, hy189, hF⟩ := bnd_some hF
      have hf9 := wA_in hD hA9 hS
      refine va_calli (va_runV (As := [.int p0]) (rest := []) ⟨hx, hb, hml, hown, hts⟩ (kX9_sides l D ct ad Z G y186.1 H.size b188 p0 y189 hc188 hk188 hy189) (cwV 1 hts gX0_chooseByChance_X9_sides rfl rfl rfl (by decide +kernel) ⟨Nat.le_of_ble_eq_true rfl, Nat.le_of_ble_eq_true rfl⟩) ⟨fun a U g mk q => by obtain ⟨q0, q1, qP, qK, qD, qZ, qN⟩ := q; exact ⟨q0, q1, qP, va_K.moved (u := U) (U := U.calling g mk a) (Vm.Alike.refl U.vm) qK, qD, sF.moved (u := U) (U := U.calling g mk a) (Vm.Alike.refl U.vm) qZ, nF.same rfl qN⟩, va_recv hK hP (ci := 9) (q0 := b188) rfl (wld_o ct ad G y186.1 hc188 hk188 (by decide)), fun U hU hW => ⟨rfl, by rw [hU], by rw [hU]; exact hP, va_K.moved hW.alike hK, hD.weaken (fun _ _ _ _ => trivial), by rw [hU]; exact ((hZ.kept hS.2.1).narrow hf9).moved hW.alike, hN.warm hW⟩⟩ rfl rfl hl.1 rfl (lv_room (Nat.le_of_ble_eq_true rfl)) dX0_chooseByChance_61 ⟨(Nat.zero_le _), (Nat.zero_le _)⟩) hS (fun q _ h => hf9 q h) hf9 (fun r u t H locs ht hvm hw hB hz1 hk1 hS => ?_)
      obtain ⟨hP, hK9, hD9⟩ := hB
      rw [ht] at hP
      try dsimp only at hw
      subst hw
      have hD := hD9.weaken (fun _ q _ h => hf9 q.1 h)
      refine lv_istore (lv' := [(5, .int y189.2), (4, .int (1 : Int32)), (3, .int x5), (2, .int x1), (0, .ref (ad a)), (1, .int p0)]) hx hb dX0_chooseByChance_64 hl (by decide) rfl (fun ls hl => ?_)
      refine lv_iload hx hb dX0_chooseByChance_66 (lv_at hl 1 rfl) ?_
      refine lv_iconst (v := (1 : Int32)) hx hb dX0_chooseByChance_68 (by decide) ?_
      obtain ⟨y190, hy190, hF⟩ := bnd_some hF
      have J190 : ∀ (H : Heap) (locs : List Loc) (ls : Array Slot), va_P D classes (wld ct ad G y190) H → va_D A (wld ct ad G y190) → va_S A s.heap H locs → lv_has ls 7 [(5, .int y189.2), (4, .int (1 : Int32)), (3, .int x5), (2, .int x1), (0, .ref (ad a)), (1, .int p0)] → W p l e (headSpec wuX0_chooseByChance ({ frames := 6, cells := 0, slots := 0, locals := 162 })).room s m ([.ref (ad a), .int p0] : List Value).toArray below meth c H locs 0 0 (MQ below (va_Qv (fun (_ : Unit) => True) (fun _ t => kE D ct ad G A y t) A) ([.ref (ad a), .int p0] : List Value).toArray s 0 0 A) (F0 m 345 ls []) := by
        intro H locs ls hP hD hS hl
        obtain rfl := Option.some.inj hF
        exact W.vret hx hb hr (fun t ht hW => ⟨⟨(), rfl, trivial, ⟨by rw [ht]; exact hP, va_K.moved hW.alike hK, hD⟩⟩, hS.F ht⟩) hS.2.2 dX0_chooseByChance_345
      clear hF
      have hF := hy190
      clear hy190
      refine lv_icmp_eq (tgt := 84) hx hb dX0_chooseByChance_69 (by decide) (fun c191 => ?_) (fun c191 => ?_)
      · rw [if_pos c191] at hF
        refine lv_aload_n hx hb dX0_chooseByChance_84 rfl (lv_at hl 4 rfl) ?_
        refine va_get (D := D) (ci := 0) (v := va_re ad (y189.1.2 a 3)) (C := RX0) (T := TX0) (N := 21) hx hb hts (mus hf_X0) hown hK hP a (wld_o ct ad G y189.1 hc hk (by decide)) rfl 3 (by decide) (hts (.fieldLink RX0 36 "VideoSuite$Coder" "work" "LVideoSuite$Work;") (mu mw_817)) (fun _ h9 => h9) rfl dX0_chooseByChance_85 ?_
        obtain ⟨b192, ho192, hc192, hk192, hF⟩ := dr_some hF
        refine W_st (st' := [.ref (ad b192)]) (by rw [va_some ho192]) ?_
        refine va_get (D := D) (ci := 9) (v := va_re ad (y189.1.2 b192 6)) (C := RX9) (T := TX9) (N := 20) hx hb hts (mus hf_X9) hown hK hP b192 (wld_o ct ad G y189.1 hc192 hk192 (by decide)) rfl 6 (by decide) (hts (.fieldLink RX0 216 "VideoSuite$Work" "info" "[I") (mu mw_445)) (fun _ h9 => h9) rfl dX0_chooseByChance_88 ?_
        refine lv_iload_n hx hb dX0_chooseByChance_91 rfl (lv_at hl 3 rfl) ?_
        refine lv_iconst (v := (0 : Int32)) hx hb dX0_chooseByChance_92 (by decide) ?_
        refine lv_iadd hx hb dX0_chooseByChance_93 ?_
        obtain ⟨x193, ex193, hF⟩ := ltt_some hF
        refine lv_topi (fun zx193 ezx193 => ?_)
        obtain rfl : x193 = zx193 := ex193.trans ezx193.symm
        refine lv_iconst (v := (1 : Int32)) hx hb dX0_chooseByChance_94 (by decide) ?_
        obtain ⟨b194, ho194, hc194, hk194, hF⟩ := dr_some hF
        refine W_st (st' := [.int (1 : Int32), .int x193, .ref (ad b194)]) (by rw [va_some ho194]) ?_
        obtain ⟨hvc, hF⟩ := chk_some hF
        refine va_iast hx hb hK hP hD hS b194 1 (wld_i ct ad G y189.1 hc194 hk194) rfl hvc dX0_chooseByChance_95 (fun H locs hP hD hS => ?_)
        obtain ⟨M195, eM195, hF⟩ := ltt_some hF
        rw [set_i ct ad G y189.1 hc194 hk194, ← eM195] at hP hD
        refine lv_aload_n hx hb dX0_chooseByChance_96 rfl (lv_at hl 4 rfl) ?_
        refine va_get (D := D) (ci := 0) (v := va_re ad (M195.2 a 3)) (C := RX0) (T := TX0) (N := 21) hx hb hts (mus hf_X0) hown hK hP a (wld_o ct ad G M195 hc hk (by decide)) rfl 3 (by decide) (hts (.fieldLink RX0 36 "VideoSuite$Coder" "work" "LVideoSuite$Work;") (mu mw_817)) (fun _ h9 => h9) rfl dX0_chooseByChance_97 ?_
        obtain ⟨b196, ho196, hc196, hk196, hF⟩ := dr_some hF
        refine W_st (st' := [.ref (ad b196)]) (by rw [va_some ho196]) ?_
        refine va_get (D := D) (ci := 9) (v := va_re ad (M195.2 b196 7)) (C := RX9) (T := TX9) (N := 20) hx hb hts (mus hf_X9) hown hK hP b196 (wld_o ct ad G M195 hc196 hk196 (by decide)) rfl 7 (by decide) (hts (.fieldLink RX0 356 "VideoSuite$Work" "mode" "[I") (mu mw_448)) (fun _ h9 => h9) rfl dX0_chooseByChance_100 ?_
        refine lv_bipush (v := (16 : Int32)) hx hb dX0_chooseByChance_103 (by decide) ?_
        refine lv_iload_n hx hb dX0_chooseByChance_105 rfl (lv_at hl 5 rfl) ?_
        refine lv_imul hx hb dX0_chooseByChance_106 ?_
        obtain ⟨x197, ex197, hF⟩ := ltt_some hF
        refine lv_topi (fun zx197 ezx197 => ?_)
        obtain rfl : x197 = zx197 := ex197.trans ezx197.symm
        refine lv_bipush (v := (16 : Int32)) hx hb dX0_chooseByChance_107 (by decide) ?_
        refine lv_iload_n hx hb dX0_chooseByChance_109 rfl (lv_at hl 5 rfl) ?_
        refine lv_imul hx hb dX0_chooseByChance_110 ?_
        obtain ⟨x198, ex198, hF⟩ := ltt_some hF
        refine lv_topi (fun zx198 ezx198 => ?_)
        obtain rfl : x198 = zx198 := ex198.trans ezx198.symm
        refine lv_bipush (v := (16 : Int32)) hx hb dX0_chooseByChance_111 (by decide) ?_
        refine lv_iadd hx hb dX0_chooseByChance_113 ?_
        obtain ⟨x199, ex199, hF⟩ := ltt_some hF
        refine lv_topi (fun zx199 ezx199 => ?_)
        obtain rfl : x199 = zx199 := ex199.trans ezx199.symm
        refine lv_aload_n hx hb dX0_chooseByChance_114 rfl (lv_at hl 4 rfl) ?_
        refine lv_iconst (v := (1 : Int32)) hx hb dX0_chooseByChance_115 (by decide) ?_
        refine lv_iconst (v := (4 : Int32)) hx hb dX0_chooseByChance_116 (by decide) ?_
        refine lv_iload hx hb dX0_chooseByChance_117 (lv_at hl 0 rfl) ?_
        obtain ⟨y200, hy200, hF⟩ := bnd_some hF
        have hf9 := wA_in hD hA9 hS
        refine va_calli (va_runV (As := [.int (1 : Int32), .int (4 : Int32), .int y189.2]) (rest := [.int x199, .int x197, va_re ad (M195.2 b196 7)]) ⟨hx, hb, hml, hown, hts⟩ (kX0_drawMode l D ct ad Z G M195 H.size a ((1 : Int32)) ((4 : Int32)) y189.2 y200 hc hk hy200) (cwV 3 hts gX0_chooseByChance_X0_drawMode rfl rfl rfl (by decide +kernel) ⟨Nat.le_of_ble_eq_true rfl, Nat.le_of_ble_eq_true rfl⟩) ⟨fun a U g mk q => by obtain ⟨q0, q1, qP, qK, qD, qZ, qN⟩ := q; exact ⟨q0, q1, qP, va_K.moved (u := U) (U := U.calling g mk a) (Vm.Alike.refl U.vm) qK, qD, sF.moved (u := U) (U := U.calling g mk a) (Vm.Alike.refl U.vm) qZ, nF.same rfl qN⟩, va_recv hK hP (ci := 0) (q0 := a) rfl (wld_o ct ad G M195 hc hk (by decide)), fun U hU hW => ⟨rfl, by rw [hU], by rw [hU]; exact hP, va_K.moved hW.alike hK, hD.weaken (fun _ _ _ _ => trivial), by rw [hU]; exact ((hZ.kept hS.2.1).narrow hf9).moved hW.alike, hN.warm hW⟩⟩ rfl rfl hl.1 rfl (lv_room (by simp only [List.map, va_re_cat]; exact Nat.le_of_ble_eq_true rfl)) dX0_chooseByChance_119 ⟨(Nat.zero_le _), (Nat.zero_le _)⟩) hS (fun q _ h => hf9 q h) hf9 (fun r u t H locs ht hvm hw hB hz1 hk1 hS => ?_)
        obtain ⟨hP, hK9, hD9⟩ := hB
        rw [ht] at hP
        try dsimp only at hw
        subst hw
        have hD := hD9.weaken (fun _ q _ h => hf9 q.1 h)
        obtain ⟨y201, hy201, hF⟩ := bnd_some hF
        have hf9 := wA_in hD hA9 hS
        refine va_callv (va_runS (As := [va_re ad (M195.2 b196 7), .int x197, .int x199, .int y200.2]) (rest := []) ⟨hx, hb, hml, hown, hts⟩ (kJ7_fill_fda19 l D ct ad Z G y200.1 H.size ((M195.2 b196 7)) x197 x199 y200.2 y201 hy201) (va_cwS 4 hts gX0_chooseByChance_J7_fill_fda19 rfl rfl rfl (by decide +kernel) ⟨Nat.le_of_ble_eq_true rfl, Nat.le_of_ble_eq_true rfl⟩) ⟨fun a U g mk q => by obtain ⟨q0, q1, qP, qK, qD, qZ, qN⟩ := q; exact ⟨q0, q1, qP, va_K.moved (u := U) (U := U.calling g mk a) (Vm.Alike.refl U.vm) qK, qD, sF.moved (u := U) (U := U.calling g mk a) (Vm.Alike.refl U.vm) qZ, nF.same rfl qN⟩, fun U hU hW => ⟨rfl, by rw [hU], by rw [hU]; exact hP, va_K.moved hW.alike hK, hD.weaken (fun _ _ _ _ => trivial), by rw [hU]; exact ((hZ.kept hS.2.1).narrow hf9).moved hW.alike, hN.warm hW⟩⟩ rfl rfl hl.1 rfl (lv_room (Nat.le_of_ble_eq_true rfl)) dX0_chooseByChance_122 ⟨(Nat.zero_le _), (Nat.zero_le _)⟩) hS (fun q _ h => hf9 q h) hf9 (fun u t H locs ht hvm hw hB hz1 hk1 hS => ?_)
        obtain ⟨hP, hK9, hD9⟩ := hB
        rw [ht] at hP
        have hD := hD9.weaken (fun _ q _ h => hf9 q.1 h)
        refine lv_aload_n hx hb dX0_chooseByChance_125 rfl (lv_at hl 4 rfl) ?_
        refine va_get (D := D) (ci := 0) (v := va_re ad (y201.2 a 3)) (C := RX0) (T := TX0) (N := 21) hx hb hts (mus hf_X0) hown hK hP a (wld_o ct ad G y201 hc hk (by decide)) rfl 3 (by decide) (hts (.fieldLink RX0 36 "VideoSuite$Coder" "work" "LVideoSuite$Work;") (mu mw_817)) (fun _ h9 => h9) rfl dX0_chooseByChance_126 ?_
        obtain ⟨b202, ho202, hc202, hk202, hF⟩ := dr_some hF
        refine W_st (st' := [.ref (ad b202)]) (by rw [va_some ho202]) ?_
        refine va_get (D := D) (ci := 9) (v := va_re ad (y201.2 b202 6)) (C := RX9) (T := TX9) (N := 20) hx hb hts (mus hf_X9) hown hK hP b202 (wld_o ct ad G y201 hc202 hk202 (by decide)) rfl 6 (by decide) (hts (.fieldLink RX0 216 "VideoSuite$Work" "info" "[I") (mu mw_445)) (fun _ h9 => h9) rfl dX0_chooseByChance_129 ?_
        refine lv_iload_n hx hb dX0_chooseByChance_132 rfl (lv_at hl 3 rfl) ?_
        refine lv_iconst (v := (5 : Int32)) hx hb dX0_chooseByChance_133 (by decide) ?_
        refine lv_iadd hx hb dX0_chooseByChance_134 ?_
        obtain ⟨x203, ex203, hF⟩ := ltt_some hF
        refine lv_topi (fun zx203 ezx203 => ?_)
        obtain rfl : x203 = zx203 := ex203.trans ezx203.symm
        refine lv_aload_n hx hb dX0_chooseByChance_135 rfl (lv_at hl 4 rfl) ?_
        refine lv_iconst (v := (-1 : Int32)) hx hb dX0_chooseByChance_136 (by decide) ?_
        refine lv_iconst (v := (4 : Int32)) hx hb dX0_chooseByChance_137 (by decide) ?_
        refine lv_iload hx hb dX0_chooseByChance_138 (lv_at hl 0 rfl) ?_
        obtain ⟨y204, hy204, hF⟩ := bnd_some hF
        have hf9 := wA_in hD hA9 hS
        refine va_calli (va_runV (As := [.int (-1 : Int32), .int (4 : Int32), .int y189.2]) (rest := [.int x203, va_re ad (y201.2 b202 6)]) ⟨hx, hb, hml, hown, hts⟩ (kX0_drawMode l D ct ad Z G y201 H.size a ((-1 : Int32)) ((4 : Int32)) y189.2 y204 hc hk hy204) (cwV 3 hts gX0_chooseByChance_X0_drawMode rfl rfl rfl (by decide +kernel) ⟨Nat.le_of_ble_eq_true rfl, Nat.le_of_ble_eq_true rfl⟩) ⟨fun a U g mk q => by obtain ⟨q0, q1, qP, qK, qD, qZ, qN⟩ := q; exact ⟨q0, q1, qP, va_K.moved (u := U) (U := U.calling g mk a) (Vm.Alike.refl U.vm) qK, qD, sF.moved (u := U) (U := U.calling g mk a) (Vm.Alike.refl U.vm) qZ, nF.same rfl qN⟩, va_recv hK hP (ci := 0) (q0 := a) rfl (wld_o ct ad G y201 hc hk (by decide)), fun U hU hW => ⟨rfl, by rw [hU], by rw [hU]; exact hP, va_K.moved hW.alike hK, hD.weaken (fun _ _ _ _ => trivial), by rw [hU]; exact ((hZ.kept hS.2.1).narrow hf9).moved hW.alike, hN.warm hW⟩⟩ rfl rfl hl.1 rfl (lv_room (by simp only [List.map, va_re_cat]; exact Nat.le_of_ble_eq_true rfl)) dX0_chooseByChance_140 ⟨(Nat.zero_le _), (Nat.zero_le _)⟩) hS (fun q _ h => hf9 q h) hf9 (fun r u t H locs ht hvm hw hB hz1 hk1 hS => ?_)
        obtain ⟨hP, hK9, hD9⟩ := hB
        rw [ht] at hP
        try dsimp only at hw
        subst hw
        have hD := hD9.weaken (fun _ q _ h => hf9 q.1 h)
        obtain ⟨b205, ho205, hc205, hk205, hF⟩ := dr_some hF
        refine W_st (st' := [.int y204.2, .int x203, .ref (ad b205)]) (by rw [va_some ho205]) ?_
        obtain ⟨hvc, hF⟩ := chk_some hF
        refine va_iast hx hb hK hP hD hS b205 1 (wld_i ct ad G y204.1 hc205 hk205) rfl hvc dX0_chooseByChance_143 (fun H locs hP hD hS => ?_)
        obtain ⟨M206, eM206, hF⟩ := ltt_some hF
        rw [set_i ct ad G y204.1 hc205 hk205, ← eM206] at hP hD
        refine lv_goto (tgt := 345) hx hb dX0_chooseByChance_144 (by decide) ?_
        obtain rfl := Option.some.inj hF
        exact J190 _ _ _ hP hD hS (lv_sub hl [0, 1, 2, 3, 4, 5] rfl)
      · rw [if_neg c191] at hF
        refine lv_iload_n hx hb dX0_chooseByChance_72 rfl (lv_at hl 2 rfl) ?_
        refine lv_iconst (v := (2 : Int32)) hx hb dX0_chooseByChance_73 (by decide) ?_
        obtain ⟨y207, hy207, hF⟩ := bnd_some hF
        have J207 : ∀ (H : Heap) (locs : List Loc) (ls : Array Slot), va_P D classes (wld ct ad G y207) H → va_D A (wld ct ad G y207) → va_S A s.heap H locs → lv_has ls 7 [(5, .int y189.2), (4, .int (1 : Int32)), (3, .int x5), (2, .int x1), (0, .ref (ad a)), (1, .int p0)] → W p l e (headSpec wuX0_chooseByChance ({ frames := 6, cells := 0, slots := 0, locals := 162 })).room s m ([.ref (ad a), .int p0] : List Value).toArray below meth c H locs 0 0 (MQ below (va_Qv (fun (_ : Unit) => True) (fun _ t => kE D ct ad G A y t) A) ([.ref (ad a), .int p0] : List Value).toArray s 0 0 A) (F0 m 345 ls []) := by
          intro H locs ls hP hD hS hl
          obtain rfl := Option.some.inj hF
          exact J190 _ _ _ hP hD hS (lv_sub hl [0, 1, 2, 3, 4, 5] rfl)
        clear hF
        have hF := hy207
        clear hy207
        refine lv_icmp_ne (tgt := 147) hx hb dX0_chooseByChance_74 (by decide) (fun c208 => ?_) (fun c208 => ?_)
        · rw [if_neg c208] at hF
          refine lv_iload hx hb dX0_chooseByChance_147 (lv_at hl 1 rfl) ?_
          refine lv_iconst (v := (2 : Int32)) hx hb dX0_chooseByChance_149 (by decide) ?_
          obtain ⟨y209, hy209, hF⟩ := bnd_some hF
          have J209 : ∀ (H : Heap) (locs : List Loc) (ls : Array Slot), va_P D classes (wld ct ad G y209.2) H → va_D A (wld ct ad G y209.2) → va_S A s.heap H locs → lv_has ls 7 [(6, .int y209.1), (5, .int y189.2), (4, .int (1 : Int32)), (3, .int x5), (2, .int x1), (0, .ref (ad a)), (1, .int p0)] → W p l e (headSpec wuX0_chooseByChance ({ frames := 6, cells := 0, slots := 0, locals := 162 })).room s m ([.ref (ad a), .int p0] : List Value).toArray below meth c H locs 0 0 (MQ below (va_Qv (fun (_ : Unit) => True) (fun _ t => kE D ct ad G A y t) A) ([.ref (ad a), .int p0] : List Value).toArray s 0 0 A) (F0 m 345 ls []) := by
            intro H locs ls hP hD hS hl
            obtain rfl := Option.some.inj hF
            exact J207 _ _ _ hP hD hS (lv_sub hl [1, 2, 3, 4, 5, 6] rfl)
          clear hF
          have hF := hy209
          clear hy209
          refine lv_icmp_eq (tgt := 158) hx hb dX0_chooseByChance_150 (by decide) (fun c210 => ?_) (fun c210 => ?_)
          · rw [if_pos c210] at hF
            refine lv_aload_n hx hb dX0_chooseByChance_158 rfl (lv_at hl 4 rfl) ?_
            refine va_get (D := D) (ci := 0) (v := va_re ad (y189.1.2 a 3)) (C := RX0) (T := TX0) (N := 21) hx hb hts (mus hf_X0) hown hK hP a (wld_o ct ad G y189.1 hc hk (by decide)) rfl 3 (by decide) (hts (.fieldLink RX0 36 "VideoSuite$Coder" "work" "LVideoSuite$Work;") (mu mw_817)) (fun _ h9 => h9) rfl dX0_chooseByChance_159 ?_
            obtain ⟨b211, ho211, hc211, hk211, hF⟩ := dr_some hF
            refine W_st (st' := [.ref (ad b211)]) (by rw [va_some ho211]) ?_
            refine va_get (D := D) (ci := 9) (v := va_re ad (y189.1.2 b211 6)) (C := RX9) (T := TX9) (N := 20) hx hb hts (mus hf_X9) hown hK hP b211 (wld_o ct ad G y189.1 hc211 hk211 (by decide)) rfl 6 (by decide) (hts (.fieldLink RX0 216 "VideoSuite$Work" "info" "[I") (mu mw_445)) (fun _ h9 => h9) rfl dX0_chooseByChance_162 ?_
            refine lv_iload_n hx hb dX0_chooseByChance_165 rfl (lv_at hl 3 rfl) ?_
            refine lv_iconst (v := (0 : Int32)) hx hb dX0_chooseByChance_166 (by decide) ?_
            refine lv_iadd hx hb dX0_chooseByChance_167 ?_
            obtain ⟨x212, ex212, hF⟩ := ltt_some hF
            refine lv_topi (fun zx212 ezx212 => ?_)
            obtain rfl : x212 = zx212 := ex212.trans ezx212.symm
            refine lv_iconst (v := (0 : Int32)) hx hb dX0_chooseByChance_168 (by decide) ?_
            obtain ⟨b213, ho213, hc213, hk213, hF⟩ := dr_some hF
            refine W_st (st' := [.int (0 : Int32), .int x212, .ref (ad b213)]) (by rw [va_some ho213]) ?_
            obtain ⟨hvc, hF⟩ := chk_some hF
            refine va_iast hx hb hK hP hD hS b213 1 (wld_i ct ad G y189.1 hc213 hk213) rfl hvc dX0_chooseByChance_169 (fun H locs hP hD hS => ?_)
            obtain ⟨M214, eM214, hF⟩ := ltt_some hF
            rw [set_i ct ad G y189.1 hc213 hk213, ← eM214] at hP hD
            refine lv_iconst (v := (0 : Int32)) hx hb dX0_chooseByChance_170 (by decide) ?_
            refine lv_istore (lv' := [(6, .int (0 : Int32)), (5, .int y189.2), (4, .int (1 : Int32)), (3, .int x5), (2, .int x1), (0, .ref (ad a)), (1, .int p0)]) hx hb dX0_chooseByChance_171 hl (by decide) rfl (fun ls hl => ?_)
            obtain ⟨y215, hy215, hF⟩ := bnd_some hF
            have K215 : ∀ (H : Heap) (locs : List Loc) (ls : Array Slot), va_P D classes (wld ct ad G y215.2) H → va_D A (wld ct ad G y215.2) → va_S A s.heap H locs → lv_has ls 7 [(6, .int y215.1), (5, .int y189.2), (4, .int (1 : Int32)), (3, .int x5), (2, .int x1), (0, .ref (ad a)), (1, .int p0)] → W p l e (headSpec wuX0_chooseByChance ({ frames := 6, cells := 0, slots := 0, locals := 162 })).room s m ([.ref (ad a), .int p0] : List Value).toArray below meth c H locs 0 0 (MQ below (va_Qv (fun (_ : Unit) => True) (fun _ t => kE D ct ad G A y t) A) ([.ref (ad a), .int p0] : List Value).toArray s 0 0 A) (F0 m 215 ls []) := by
              intro H locs ls hP hD hS hl
              refine lv_aload_n hx hb dX0_chooseByChance_215 rfl (lv_at hl 5 rfl) ?_
              refine va_get (D := D) (ci := 0) (v := va_re ad (y215.2.2 a 3)) (C := RX0) (T := TX0) (N := 21) hx hb hts (mus hf_X0) hown hK hP a (wld_o ct ad G y215.2 hc hk (by decide)) rfl 3 (by decide) (hts (.fieldLink RX0 36 "VideoSuite$Coder" "work" "LVideoSuite$Work;") (mu mw_817)) (fun _ h9 => h9) rfl dX0_chooseByChance_216 ?_
              obtain ⟨b218, ho218, hc218, hk218, hF⟩ := dr_some hF
              refine W_st (st' := [.ref (ad b218)]) (by rw [va_some ho218]) ?_
              refine va_get (D := D) (ci := 9) (v := va_re ad (y215.2.2 b218 6)) (C := RX9) (T := TX9) (N := 20) hx hb hts (mus hf_X9) hown hK hP b218 (wld_o ct ad G y215.2 hc218 hk218 (by decide)) rfl 6 (by decide) (hts (.fieldLink RX0 216 "VideoSuite$Work" "info" "[I") (mu mw_445)) (fun _ h9 => h9) rfl dX0_chooseByChance_219 ?_
              refine lv_iload_n hx hb dX0_chooseByChance_222 rfl (lv_at hl 4 rfl) ?_
              refine lv_iconst (v := (5 : Int32)) hx hb dX0_chooseByChance_223 (by decide) ?_
              refine lv_iadd hx hb dX0_chooseByChance_224 ?_
              obtain ⟨x219, ex219, hF⟩ := ltt_some hF
              refine lv_topi (fun zx219 ezx219 => ?_)
              obtain rfl : x219 = zx219 := ex219.trans ezx219.symm
              refine lv_aload_n hx hb dX0_chooseByChance_225 rfl (lv_at hl 5 rfl) ?_
              refine lv_iconst (v := (-1 : Int32)) hx hb dX0_chooseByChance_226 (by decide) ?_
              refine lv_iconst (v := (4 : Int32)) hx hb dX0_chooseByChance_227 (by decide) ?_
              refine lv_iload hx hb dX0_chooseByChance_228 (lv_at hl 1 rfl) ?_
              obtain ⟨y220, hy220, hF⟩ := bnd_some hF
              have hf9 := wA_in hD hA9 hS
              refine va_calli (va_runV (As := [.int (-1 : Int32), .int (4 : Int32), .int y189.2]) (rest := [.int x219, va_re ad (y215.2.2 b218 6)]) ⟨hx, hb, hml, hown, hts⟩ (kX0_drawMode l D ct ad Z G y215.2 H.size a ((-1 : Int32)) ((4 : Int32)) y189.2 y220 hc hk hy220) (cwV 3 hts gX0_chooseByChance_X0_drawMode rfl rfl rfl (by decide +kernel) ⟨Nat.le_of_ble_eq_true rfl, Nat.le_of_ble_eq_true rfl⟩) ⟨fun a U g mk q => by obtain ⟨q0, q1, qP, qK, qD, qZ, qN⟩ := q; exact ⟨q0, q1, qP, va_K.moved (u := U) (U := U.calling g mk a) (Vm.Alike.refl U.vm) qK, qD, sF.moved (u := U) (U := U.calling g mk a) (Vm.Alike.refl U.vm) qZ, nF.same rfl qN⟩, va_recv hK hP (ci := 0) (q0 := a) rfl (wld_o ct ad G y215.2 hc hk (by decide)), fun U hU hW => ⟨rfl, by rw [hU], by rw [hU]; exact hP, va_K.moved hW.alike hK, hD.weaken (fun _ _ _ _ => trivial), by rw [hU]; exact ((hZ.kept hS.2.1).narrow hf9).moved hW.alike, hN.warm hW⟩⟩ rfl rfl hl.1 rfl (lv_room (by simp only [List.map, va_re_cat]; exact Nat.le_of_ble_eq_true rfl)) dX0_chooseByChance_230 ⟨(Nat.zero_le _), (Nat.zero_le _)⟩) hS (fun q _ h => hf9 q h) hf9 (fun r u t H locs ht hvm hw hB hz1 hk1 hS => ?_)
              obtain ⟨hP, hK9, hD9⟩ := hB
              rw [ht] at hP
              try dsimp only at hw
              subst hw
              have hD := hD9.weaken (fun _ q _ h => hf9 q.1 h)
              obtain ⟨b221, ho221, hc221, hk221, hF⟩ := dr_some hF
              refine W_st (st' := [.int y220.2, .int x219, .ref (ad b221)]) (by rw [va_some ho221]) ?_
              obtain ⟨hvc, hF⟩ := chk_some hF
              refine va_iast hx hb hK hP hD hS b221 1 (wld_i ct ad G y220.1 hc221 hk221) rfl hvc dX0_chooseByChance_233 (fun H locs hP hD hS => ?_)
              obtain ⟨M222, eM222, hF⟩ := ltt_some hF
              rw [set_i ct ad G y220.1 hc221 hk221, ← eM222] at hP hD
              refine lv_goto (tgt := 345) hx hb dX0_chooseByChance_234 (by decide) ?_
              obtain rfl := Option.some.inj hF
              exact J209 _ _ _ hP hD hS (lv_sub hl [0, 1, 2, 3, 4, 5, 6] rfl)
            clear hF
            refine itr_rule (fun (s216 : Int32 × DD) => ∀ (H : Heap) (locs : List Loc) (ls : Array Slot), va_P D classes (wld ct ad G s216.2) H → va_D A (wld ct ad G s216.2) → va_S A s.heap H locs → lv_has ls 7 [(6, .int s216.1), (5, .int y189.2), (4, .int (1 : Int32)), (3, .int x5), (2, .int x1), (0, .ref (ad a)), (1, .int p0)] → W p l e (headSpec wuX0_chooseByChance ({ frames := 6, cells := 0, slots := 0, locals := 162 })).room s m ([.ref (ad a), .int p0] : List Value).toArray below meth c H locs 0 0 (MQ below (va_Qv (fun (_ : Unit) => True) (fun _ t => kE D ct ad G A y t) A) ([.ref (ad a), .int p0] : List Value).toArray s 0 0 A) (F0 m 173 ls [])) ?_ _ _ hy215 _ _ _ hP hD hS (lv_sub hl [0, 1, 2, 3, 4, 5, 6] rfl)
            rintro s216 ⟨z223, hF, hwz223⟩ H locs ls hP hD hS hl
            try dsimp only at hF
            refine lv_iload hx hb dX0_chooseByChance_173 (lv_at hl 0 rfl) ?_
            refine lv_bipush (v := (16 : Int32)) hx hb dX0_chooseByChance_175 (by decide) ?_
            refine lv_icmp_ge (tgt := 215) hx hb dX0_chooseByChance_177 (by decide) (fun c224 => ?_) (fun c224 => ?_)
            · rw [if_pos c224] at hF
              obtain rfl := Option.some.inj hF
              subst hwz223
              exact K215 _ _ _ hP hD hS (lv_sub hl [0, 1, 2, 3, 4, 5, 6] rfl)
            · rw [if_neg c224] at hF
              refine lv_aload_n hx hb dX0_chooseByChance_180 rfl (lv_at hl 5 rfl) ?_
              refine va_get (D := D) (ci := 0) (v := va_re ad (s216.2.2 a 3)) (C := RX0) (T := TX0) (N := 21) hx hb hts (mus hf_X0) hown hK hP a (wld_o ct ad G s216.2 hc hk (by decide)) rfl 3 (by decide) (hts (.fieldLink RX0 36 "VideoSuite$Coder" "work" "LVideoSuite$Work;") (mu mw_817)) (fun _ h9 => h9) rfl dX0_chooseByChance_181 ?_
              obtain ⟨b225, ho225, hc225, hk225, hF⟩ := dr_some hF
              refine W_st (st' := [.ref (ad b225)]) (by rw [va_some ho225]) ?_
              refine va_get (D := D) (ci := 9) (v := va_re ad (s216.2.2 b225 7)) (C := RX9) (T := TX9) (N := 20) hx hb hts (mus hf_X9) hown hK hP b225 (wld_o ct ad G s216.2 hc225 hk225 (by decide)) rfl 7 (by decide) (hts (.fieldLink RX0 356 "VideoSuite$Work" "mode" "[I") (mu mw_448)) (fun _ h9 => h9) rfl dX0_chooseByChance_184 ?_
              refine lv_bipush (v := (16 : Int32)) hx hb dX0_chooseByChance_187 (by decide) ?_
              refine lv_iload_n hx hb dX0_chooseByChance_189 rfl (lv_at hl 6 rfl) ?_
              refine lv_imul hx hb dX0_chooseByChance_190 ?_
              obtain ⟨x226, ex226, hF⟩ := ltt_some hF
              refine lv_topi (fun zx226 ezx226 => ?_)
              obtain rfl : x226 = zx226 := ex226.trans ezx226.symm
              refine lv_iload hx hb dX0_chooseByChance_191 (lv_at hl 0 rfl) ?_
              refine lv_iadd hx hb dX0_chooseByChance_193 ?_
              obtain ⟨x227, ex227, hF⟩ := ltt_some hF
              refine lv_topi (fun zx227 ezx227 => ?_)
              obtain rfl : x227 = zx227 := ex227.trans ezx227.symm
              refine lv_aload_n hx hb dX0_chooseByChance_194 rfl (lv_at hl 5 rfl) ?_
              refine lv_iconst (v := (0 : Int32)) hx hb dX0_chooseByChance_195 (by decide) ?_
              refine lv_bipush (v := (9 : Int32)) hx hb dX0_chooseByChance_196 (by decide) ?_
              refine lv_iload hx hb dX0_chooseByChance_198 (lv_at hl 0 rfl) ?_
              refine lv_iload hx hb dX0_chooseByChance_200 (lv_at hl 1 rfl) ?_
              obtain ⟨y228, hy228, hF⟩ := bnd_some hF
              have hf9 := wA_in hD hA9 hS
              refine va_calli (va_runS (As := [.int s216.1, .int y189.2]) (rest := [.int (9 : Int32), .int (0 : Int32), .ref (ad a), .int x227, va_re ad (s216.2.2 b225 7)]) ⟨hx, hb, hml, hown, hts⟩ (kX9_sidesOf l D ct ad Z G s216.2 H.size s216.1 y189.2 y228 hy228) (va_cwS 2 hts gX0_chooseByChance_X9_sidesOf rfl rfl rfl (by decide +kernel) ⟨Nat.le_of_ble_eq_true rfl, Nat.le_of_ble_eq_true rfl⟩) ⟨fun a U g mk q => by obtain ⟨q0, q1, qP, qK, qD, qZ, qN⟩ := q; exact ⟨q0, q1, qP, va_K.moved (u := U) (U := U.calling g mk a) (Vm.Alike.refl U.vm) qK, qD, sF.moved (u := U) (U := U.calling g mk a) (Vm.Alike.refl U.vm) qZ, nF.same rfl qN⟩, fun U hU hW => ⟨rfl, by rw [hU], by rw [hU]; exact hP, va_K.moved hW.alike hK, hD.weaken (fun _ _ _ _ => trivial), by rw [hU]; exact ((hZ.kept hS.2.1).narrow hf9).moved hW.alike, hN.warm hW⟩⟩ rfl rfl hl.1 rfl (lv_room (by simp only [List.map, va_re_cat]; exact Nat.le_of_ble_eq_true rfl)) dX0_chooseByChance_202 ⟨(Nat.zero_le _), (Nat.zero_le _)⟩) hS (fun q _ h => hf9 q h) hf9 (fun r u t H locs ht hvm hw hB hz1 hk1 hS => ?_)
              obtain ⟨hP, hK9, hD9⟩ := hB
              rw [ht] at hP
              try dsimp only at hw
              subst hw
              have hD := hD9.weaken (fun _ q _ h => hf9 q.1 h)
              obtain ⟨y229, hy229, hF⟩ := bnd_some hF
              have hf9 := wA_in hD hA9 hS
              refine va_calli (va_runV (As := [.int (0 : Int32), .int (9 : Int32), .int y228.2]) (rest := [.int x227, va_re ad (s216.2.2 b225 7)]) ⟨hx, hb, hml, hown, hts⟩ (kX0_drawMode l D ct ad Z G y228.1 H.size a ((0 : Int32)) ((9 : Int32)) y228.2 y229 hc hk hy229) (cwV 3 hts gX0_chooseByChance_X0_drawMode rfl rfl rfl (by decide +kernel) ⟨Nat.le_of_ble_eq_true rfl, Nat.le_of_ble_eq_true rfl⟩) ⟨fun a U g mk q => by obtain ⟨q0, q1, qP, qK, qD, qZ, qN⟩ := q; exact ⟨q0, q1, qP, va_K.moved (u := U) (U := U.calling g mk a) (Vm.Alike.refl U.vm) qK, qD, sF.moved (u := U) (U := U.calling g mk a) (Vm.Alike.refl U.vm) qZ, nF.same rfl qN⟩, va_recv hK hP (ci := 0) (q0 := a) rfl (wld_o ct ad G y228.1 hc hk (by decide)), fun U hU hW => ⟨rfl, by rw [hU], by rw [hU]; exact hP, va_K.moved hW.alike hK, hD.weaken (fun _ _ _ _ => trivial), by rw [hU]; exact ((hZ.kept hS.2.1).narrow hf9).moved hW.alike, hN.warm hW⟩⟩ rfl rfl hl.1 rfl (lv_room (by simp only [List.map, va_re_cat]; exact Nat.le_of_ble_eq_true rfl)) dX0_chooseByChance_205 ⟨(Nat.zero_le _), (Nat.zero_le _)⟩) hS (fun q _ h => hf9 q h) hf9 (fun r u t H locs ht hvm hw hB hz1 hk1 hS => ?_)
              obtain ⟨hP, hK9, hD9⟩ := hB
              rw [ht] at hP
              try dsimp only at hw
              subst hw
              have hD := hD9.weaken (fun _ q _ h => hf9 q.1 h)
              obtain ⟨b230, ho230, hc230, hk230, hF⟩ := dr_some hF
              refine W_st (st' := [.int y229.2, .int x227, .ref (ad b230)]) (by rw [va_some ho230]) ?_
              obtain ⟨hvc, hF⟩ := chk_some hF
              refine va_iast hx hb hK hP hD hS b230 1 (wld_i ct ad G y229.1 hc230 hk230) rfl hvc dX0_chooseByChance_208 (fun H locs hP hD hS => ?_)
              obtain ⟨M231, eM231, hF⟩ := ltt_some hF
              rw [set_i ct ad G y229.1 hc230 hk230, ← eM231] at hP hD
              obtain ⟨x232, ex232, hF⟩ := ltt_some hF
              refine lv_iinc (v := x232) (lv' := [(6, .int x232), (5, .int y189.2), (4, .int (1 : Int32)), (3, .int x5), (2, .int x1), (0, .ref (ad a)), (1, .int p0)]) hx hb dX0_chooseByChance_209 hl (k := 0) rfl (by rw [ex232]; rfl) (by decide) rfl (fun ls hl => ?_)
              refine lv_goto (tgt := 173) hx hb dX0_chooseByChance_212 (by decide) ?_
              obtain rfl := Option.some.inj hF
              exact hwz223 _ _ _ hP hD hS (lv_sub hl [0, 1, 2, 3, 4, 5, 6] rfl)
          · rw [if_neg c210] at hF
            refine lv_iload_n hx hb dX0_chooseByChance_153 rfl (lv_at hl 2 rfl) ?_
            refine lv_iconst (v := (2 : Int32)) hx hb dX0_chooseByChance_154 (by decide) ?_
            obtain ⟨y233, hy233, hF⟩ := bnd_some hF
            have J233 : ∀ (H : Heap) (locs : List Loc) (ls : Array Slot), va_P D classes (wld ct ad G y233.2) H → va_D A (wld ct ad G y233.2) → va_S A s.heap H locs → lv_has ls 7 [(6, .int y233.1), (5, .int y189.2), (4, .int (1 : Int32)), (3, .int x5), (2, .int x1), (0, .ref (ad a)), (1, .int p0)] → W p l e (headSpec wuX0_chooseByChance ({ frames := 6, cells := 0, slots := 0, locals := 162 })).room s m ([.ref (ad a), .int p0] : List Value).toArray below meth c H locs 0 0 (MQ below (va_Qv (fun (_ : Unit) => True) (fun _ t => kE D ct ad G A y t) A) ([.ref (ad a), .int p0] : List Value).toArray s 0 0 A) (F0 m 345 ls []) := by
              intro H locs ls hP hD hS hl
              obtain rfl := Option.some.inj hF
              exact J209 _ _ _ hP hD hS (lv_sub hl [0, 1, 2, 3, 4, 5, 6] rfl)
            clear hF
            have hF := hy233
            clear hy233
            refine lv_icmp_ne (tgt := 237) hx hb dX0_chooseByChance_155 (by decide) (fun c234 => ?_) (fun c234 => ?_)
            · rw [if_neg c234] at hF
              refine lv_aload_n hx hb dX0_chooseByChance_237 rfl (lv_at hl 4 rfl) ?_
              refine va_get (D := D) (ci := 0) (v := va_re ad (y189.1.2 a 3)) (C := RX0) (T := TX0) (N := 21) hx hb hts (mus hf_X0) hown hK hP a (wld_o ct ad G y189.1 hc hk (by decide)) rfl 3 (by decide) (hts (.fieldLink RX0 36 "VideoSuite$Coder" "work" "LVideoSuite$Work;") (mu mw_817)) (fun _ h9 => h9) rfl dX0_chooseByChance_238 ?_
              obtain ⟨b235, ho235, hc235, hk235, hF⟩ := dr_some hF
              refine W_st (st' := [.ref (ad b235)]) (by rw [va_some ho235]) ?_
              refine va_get (D := D) (ci := 9) (v := va_re ad (y189.1.2 b235 6)) (C := RX9) (T := TX9) (N := 20) hx hb hts (mus hf_X9) hown hK hP b235 (wld_o ct ad G y189.1 hc235 hk235 (by decide)) rfl 6 (by decide) (hts (.fieldLink RX0 216 "VideoSuite$Work" "info" "[I") (mu mw_445)) (fun _ h9 => h9) rfl dX0_chooseByChance_241 ?_
              refine lv_iload_n hx hb dX0_chooseByChance_244 rfl (lv_at hl 3 rfl) ?_
              refine lv_iconst (v := (0 : Int32)) hx hb dX0_chooseByChance_245 (by decide) ?_
              refine lv_iadd hx hb dX0_chooseByChance_246 ?_
              obtain ⟨x236, ex236, hF⟩ := ltt_some hF
              refine lv_topi (fun zx236 ezx236 => ?_)
              obtain rfl : x236 = zx236 := ex236.trans ezx236.symm
              refine lv_iconst (v := (3 : Int32)) hx hb dX0_chooseByChance_247 (by decide) ?_
              obtain ⟨b237, ho237, hc237, hk237, hF⟩ := dr_some hF
              refine W_st (st' := [.int (3 : Int32), .int x236, .ref (ad b237)]) (by rw [va_some ho237]) ?_
              obtain ⟨hvc, hF⟩ := chk_some hF
              refine va_iast hx hb hK hP hD hS b237 1 (wld_i ct ad G y189.1 hc237 hk237) rfl hvc dX0_chooseByChance_248 (fun H locs hP hD hS => ?_)
              obtain ⟨M238, eM238, hF⟩ := ltt_some hF
              rw [set_i ct ad G y189.1 hc237 hk237, ← eM238] at hP hD
              refine lv_iload_n hx hb dX0_chooseByChance_249 rfl (lv_at hl 2 rfl) ?_
              obtain ⟨y239, hy239, hF⟩ := bnd_some hF
              have J239 : ∀ (H : Heap) (locs : List Loc) (ls : Array Slot), va_P D classes (wld ct ad G y239.2) H → va_D A (wld ct ad G y239.2) → va_S A s.heap H locs → lv_has ls 7 [(6, .int y239.1), (5, .int y189.2), (4, .int (1 : Int32)), (3, .int x5), (2, .int x1), (0, .ref (ad a)), (1, .int p0)] → W p l e (headSpec wuX0_chooseByChance ({ frames := 6, cells := 0, slots := 0, locals := 162 })).room s m ([.ref (ad a), .int p0] : List Value).toArray below meth c H locs 0 0 (MQ below (va_Qv (fun (_ : Unit) => True) (fun _ t => kE D ct ad G A y t) A) ([.ref (ad a), .int p0] : List Value).toArray s 0 0 A) (F0 m 337 ls []) := by
                intro H locs ls hP hD hS hl
                refine lv_aload_n hx hb dX0_chooseByChance_337 rfl (lv_at hl 5 rfl) ?_
                refine lv_iload_n hx hb dX0_chooseByChance_338 rfl (lv_at hl 6 rfl) ?_
                refine lv_iload_n hx hb dX0_chooseByChance_339 rfl (lv_at hl 3 rfl) ?_
                refine lv_iload hx hb dX0_chooseByChance_340 (lv_at hl 0 rfl) ?_
                obtain ⟨y240, hy240, hF⟩ := bnd_some hF
                have hf9 := wA_in hD hA9 hS
                refine va_callv (va_runV (As := [.int p0, .int x5, .int y239.1]) (rest := []) ⟨hx, hb, hml, hown, hts⟩ (kX0_drawByLists l D ct ad Z G y239.2 H.size a p0 x5 y239.1 y240 hc hk hy240) (cwV 3 hts gX0_chooseByChance_X0_drawByLists rfl rfl rfl (by decide +kernel) ⟨Nat.le_of_ble_eq_true rfl, Nat.le_of_ble_eq_true rfl⟩) ⟨fun a U g mk q => by obtain ⟨q0, q1, qP, qK, qD, qZ, qN⟩ := q; exact ⟨q0, q1, qP, va_K.moved (u := U) (U := U.calling g mk a) (Vm.Alike.refl U.vm) qK, qD, sF.moved (u := U) (U := U.calling g mk a) (Vm.Alike.refl U.vm) qZ, nF.same rfl qN⟩, va_recv hK hP (ci := 0) (q0 := a) rfl (wld_o ct ad G y239.2 hc hk (by decide)), fun U hU hW => ⟨rfl, by rw [hU], by rw [hU]; exact hP, va_K.moved hW.alike hK, hD.weaken (fun _ _ _ _ => trivial), by rw [hU]; exact ((hZ.kept hS.2.1).narrow hf9).moved hW.alike, hN.warm hW⟩⟩ rfl rfl hl.1 rfl (lv_room (Nat.le_of_ble_eq_true rfl)) dX0_chooseByChance_342 ⟨(Nat.zero_le _), (Nat.zero_le _)⟩) hS (fun q _ h => hf9 q h) hf9 (fun u t H locs ht hvm hw hB hz1 hk1 hS => ?_)
                obtain ⟨hP, hK9, hD9⟩ := hB
                rw [ht] at hP
                have hD := hD9.weaken (fun _ q _ h => hf9 q.1 h)
                obtain rfl := Option.some.inj hF
                exact J233 _ _ _ hP hD hS (lv_sub hl [0, 1, 2, 3, 4, 5, 6] rfl)
              clear hF
              have hF := hy239
              clear hy239
              refine lv_if_ne (tgt := 302) hx hb dX0_chooseByChance_250 (by decide) (fun c241 => ?_) (fun c241 => ?_)
              · rw [if_neg c241] at hF
                refine lv_iload hx hb dX0_chooseByChance_302 (lv_at hl 1 rfl) ?_
                refine lv_iconst (v := (5 : Int32)) hx hb dX0_chooseByChance_304 (by decide) ?_
                obtain ⟨y242, hy242, hF⟩ := bnd_some hF
                have J242 : ∀ (H : Heap) (locs : List Loc) (ls : Array Slot), va_P D classes (wld ct ad G y242.2) H → va_D A (wld ct ad G y242.2) → va_S A s.heap H locs → lv_has ls 7 [(5, .int y189.2), (4, .int (1 : Int32)), (3, .int x5), (2, .int x1), (0, .ref (ad a)), (1, .int p0)] → W p l e (headSpec wuX0_chooseByChance ({ frames := 6, cells := 0, slots := 0, locals := 162 })).room s m ([.ref (ad a), .int p0] : List Value).toArray below meth c H locs 0 0 (MQ below (va_Qv (fun (_ : Unit) => True) (fun _ t => kE D ct ad G A y t) A) ([.ref (ad a), .int p0] : List Value).toArray s 0 0 A) (F0 m 335 ls [.int y242.1]) := by
                  intro H locs ls hP hD hS hl
                  refine lv_istore (lv' := [(6, .int y242.1), (5, .int y189.2), (4, .int (1 : Int32)), (3, .int x5), (2, .int x1), (0, .ref (ad a)), (1, .int p0)]) hx hb dX0_chooseByChance_335 hl (by decide) rfl (fun ls hl => ?_)
                  obtain rfl := Option.some.inj hF
                  exact J239 _ _ _ hP hD hS (lv_sub hl [0, 1, 2, 3, 4, 5, 6] rfl)
                clear hF
                have hF := hy242
                clear hy242
                refine lv_icmp_ge (tgt := 315) hx hb dX0_chooseByChance_305 (by decide) (fun c243 => ?_) (fun c243 => ?_)
                · rw [if_pos c243] at hF
                  refine lv_iload hx hb dX0_chooseByChance_315 (lv_at hl 1 rfl) ?_
                  refine lv_bipush (v := (12 : Int32)) hx hb dX0_chooseByChance_317 (by decide) ?_
                  obtain ⟨y244, hy244, hF⟩ := bnd_some hF
                  have J244 : ∀ (H : Heap) (locs : List Loc) (ls : Array Slot), va_P D classes (wld ct ad G y244.2) H → va_D A (wld ct ad G y244.2) → va_S A s.heap H locs → lv_has ls 7 [(5, .int y189.2), (4, .int (1 : Int32)), (3, .int x5), (2, .int x1), (0, .ref (ad a)), (1, .int p0)] → W p l e (headSpec wuX0_chooseByChance ({ frames := 6, cells := 0, slots := 0, locals := 162 })).room s m ([.ref (ad a), .int p0] : List Value).toArray below meth c H locs 0 0 (MQ below (va_Qv (fun (_ : Unit) => True) (fun _ t => kE D ct ad G A y t) A) ([.ref (ad a), .int p0] : List Value).toArray s 0 0 A) (F0 m 335 ls [.int y244.1]) := by
                    intro H locs ls hP hD hS hl
                    obtain rfl := Option.some.inj hF
                    exact J242 _ _ _ hP hD hS (lv_sub hl [0, 1, 2, 3, 4, 5] rfl)
                  clear hF
                  have hF := hy244
                  clear hy244
                  refine lv_icmp_ge (tgt := 333) hx hb dX0_chooseByChance_319 (by decide) (fun c245 => ?_) (fun c245 => ?_)
                  · rw [if_pos c245] at hF
                    refine lv_bipush (v := (22 : Int32)) hx hb dX0_chooseByChance_333 (by decide) ?_
                    obtain rfl := Option.some.inj hF
                    exact J244 _ _ _ hP hD hS (lv_sub hl [0, 1, 2, 3, 4, 5] rfl)
                  · rw [if_neg c245] at hF
                    refine lv_iconst (v := (1 : Int32)) hx hb dX0_chooseByChance_322 (by decide) ?_
                    refine lv_aload_n hx hb dX0_chooseByChance_323 rfl (lv_at hl 4 rfl) ?_
                    refine lv_bipush (v := (21 : Int32)) hx hb dX0_chooseByChance_324 (by decide) ?_
                    obtain ⟨y246, hy246, hF⟩ := bnd_some hF
                    have hf9 := wA_in hD hA9 hS
                    refine va_calli (va_runV (As := [.int (21 : Int32)]) (rest := [.int (1 : Int32)]) ⟨hx, hb, hml, hown, hts⟩ (kX0_draw l D ct ad Z G M238 H.size a ((21 : Int32)) y246 hc hk hy246) (cwV 1 hts gX0_chooseByChance_X0_draw rfl rfl rfl (by decide +kernel) ⟨Nat.le_of_ble_eq_true rfl, Nat.le_of_ble_eq_true rfl⟩) ⟨fun a U g mk q => by obtain ⟨q0, q1, qP, qK, qD, qZ, qN⟩ := q; exact ⟨q0, q1, qP, va_K.moved (u := U) (U := U.calling g mk a) (Vm.Alike.refl U.vm) qK, qD, sF.moved (u := U) (U := U.calling g mk a) (Vm.Alike.refl U.vm) qZ, nF.same rfl qN⟩, va_recv hK hP (ci := 0) (q0 := a) rfl (wld_o ct ad G M238 hc hk (by decide)), fun U hU hW => ⟨rfl, by rw [hU], by rw [hU]; exact hP, va_K.moved hW.alike hK, hD.weaken (fun _ _ _ _ => trivial), by rw [hU]; exact ((hZ.kept hS.2.1).narrow hf9).moved hW.alike, hN.warm hW⟩⟩ rfl rfl hl.1 rfl (lv_room (Nat.le_of_ble_eq_true rfl)) dX0_chooseByChance_326 ⟨(Nat.zero_le _), (Nat.zero_le _)⟩) hS (fun q _ h => hf9 q h) hf9 (fun r u t H locs ht hvm hw hB hz1 hk1 hS => ?_)
                    obtain ⟨hP, hK9, hD9⟩ := hB
                    rw [ht] at hP
                    try dsimp only at hw
                    subst hw
                    have hD := hD9.weaken (fun _ q _ h => hf9 q.1 h)
                    refine lv_iadd hx hb dX0_chooseByChance_329 ?_
                    obtain ⟨x247, ex247, hF⟩ := ltt_some hF
                    refine lv_topi (fun zx247 ezx247 => ?_)
                    obtain rfl : x247 = zx247 := ex247.trans ezx247.symm
                    refine lv_goto (tgt := 335) hx hb dX0_chooseByChance_330 (by decide) ?_
                    obtain rfl := Option.some.inj hF
                    exact J244 _ _ _ hP hD hS (lv_sub hl [0, 1, 2, 3, 4, 5] rfl)
                · rw [if_neg c243] at hF
                  refine lv_iload hx hb dX0_chooseByChance_308 (lv_at hl 1 rfl) ?_
                  refine lv_iconst (v := (4 : Int32)) hx hb dX0_chooseByChance_310 (by decide) ?_
                  refine lv_isub hx hb dX0_chooseByChance_311 ?_
                  obtain ⟨x248, ex248, hF⟩ := ltt_some hF
                  refine lv_topi (fun zx248 ezx248 => ?_)
                  obtain rfl : x248 = zx248 := ex248.trans ezx248.symm
                  refine lv_goto (tgt := 335) hx hb dX0_chooseByChance_312 (by decide) ?_
                  obtain rfl := Option.some.inj hF
                  exact J242 _ _ _ hP hD hS (lv_sub hl [0, 1, 2, 3, 4, 5] rfl)
              · rw [if_pos c241] at hF
                refine lv_iload hx hb dX0_chooseByChance_253 (lv_at hl 1 rfl) ?_
                refine lv_iconst (v := (3 : Int32)) hx hb dX0_chooseByChance_255 (by decide) ?_
                obtain ⟨y249, hy249, hF⟩ := bnd_some hF
                have J249 : ∀ (H : Heap) (locs : List Loc) (ls : Array Slot), va_P D classes (wld ct ad G M238) H → va_D A (wld ct ad G M238) → va_S A s.heap H locs → lv_has ls 7 [(5, .int y189.2), (4, .int (1 : Int32)), (3, .int x5), (2, .int x1), (0, .ref (ad a)), (1, .int p0)] → W p l e (headSpec wuX0_chooseByChance ({ frames := 6, cells := 0, slots := 0, locals := 162 })).room s m ([.ref (ad a), .int p0] : List Value).toArray below meth c H locs 0 0 (MQ below (va_Qv (fun (_ : Unit) => True) (fun _ t => kE D ct ad G A y t) A) ([.ref (ad a), .int p0] : List Value).toArray s 0 0 A) (F0 m 297 ls [.int y249]) := by
                  intro H locs ls hP hD hS hl
                  refine lv_istore (lv' := [(6, .int y249), (5, .int y189.2), (4, .int (1 : Int32)), (3, .int x5), (2, .int x1), (0, .ref (ad a)), (1, .int p0)]) hx hb dX0_chooseByChance_297 hl (by decide) rfl (fun ls hl => ?_)
                  refine lv_goto (tgt := 337) hx hb dX0_chooseByChance_299 (by decide) ?_
                  obtain rfl := Option.some.inj hF
                  exact J239 _ _ _ hP hD hS (lv_sub hl [0, 1, 2, 3, 4, 5, 6] rfl)
                clear hF
                have hF := hy249
                clear hy249
                refine lv_icmp_ne (tgt := 263) hx hb dX0_chooseByChance_256 (by decide) (fun c250 => ?_) (fun c250 => ?_)
                · rw [if_neg c250] at hF
                  refine lv_iload hx hb dX0_chooseByChance_263 (lv_at hl 1 rfl) ?_
                  refine lv_bipush (v := (7 : Int32)) hx hb dX0_chooseByChance_265 (by decide) ?_
                  obtain ⟨y251, hy251, hF⟩ := bnd_some hF
                  have J251 : ∀ (H : Heap) (locs : List Loc) (ls : Array Slot), va_P D classes (wld ct ad G M238) H → va_D A (wld ct ad G M238) → va_S A s.heap H locs → lv_has ls 7 [(5, .int y189.2), (4, .int (1 : Int32)), (3, .int x5), (2, .int x1), (0, .ref (ad a)), (1, .int p0)] → W p l e (headSpec wuX0_chooseByChance ({ frames := 6, cells := 0, slots := 0, locals := 162 })).room s m ([.ref (ad a), .int p0] : List Value).toArray below meth c H locs 0 0 (MQ below (va_Qv (fun (_ : Unit) => True) (fun _ t => kE D ct ad G A y t) A) ([.ref (ad a), .int p0] : List Value).toArray s 0 0 A) (F0 m 297 ls [.int y251]) := by
                    intro H locs ls hP hD hS hl
                    obtain rfl := Option.some.inj hF
                    exact J249 _ _ _ hP hD hS (lv_sub hl [0, 1, 2, 3, 4, 5] rfl)
                  clear hF
                  have hF := hy251
                  clear hy251
                  refine lv_icmp_ge (tgt := 274) hx hb dX0_chooseByChance_267 (by decide) (fun c252 => ?_) (fun c252 => ?_)
                  · rw [if_pos c252] at hF
                    refine lv_iload hx hb dX0_chooseByChance_274 (lv_at hl 1 rfl) ?_
                    refine lv_bipush (v := (9 : Int32)) hx hb dX0_chooseByChance_276 (by decide) ?_
                    obtain ⟨y253, hy253, hF⟩ := bnd_some hF
                    have J253 : ∀ (H : Heap) (locs : List Loc) (ls : Array Slot), va_P D classes (wld ct ad G M238) H → va_D A (wld ct ad G M238) → va_S A s.heap H locs → lv_has ls 7 [(5, .int y189.2), (4, .int (1 : Int32)), (3, .int x5), (2, .int x1), (0, .ref (ad a)), (1, .int p0)] → W p l e (headSpec wuX0_chooseByChance ({ frames := 6, cells := 0, slots := 0, locals := 162 })).room s m ([.ref (ad a), .int p0] : List Value).toArray below meth c H locs 0 0 (MQ below (va_Qv (fun (_ : Unit) => True) (fun _ t => kE D ct ad G A y t) A) ([.ref (ad a), .int p0] : List Value).toArray s 0 0 A) (F0 m 297 ls [.int y253]) := by
                      intro H locs ls hP hD hS hl
                      obtain rfl := Option.some.inj hF
                      exact J251 _ _ _ hP hD hS (lv_sub hl [0, 1, 2, 3, 4, 5] rfl)
                    clear hF
                    have hF := hy253
                    clear hy253
                    refine lv_icmp_ge (tgt := 285) hx hb dX0_chooseByChance_278 (by decide) (fun c254 => ?_) (fun c254 => ?_)
                    · rw [if_pos c254] at hF
                      refine lv_iload hx hb dX0_chooseByChance_285 (lv_at hl 1 rfl) ?_
                      refine lv_bipush (v := (11 : Int32)) hx hb dX0_chooseByChance_287 (by decide) ?_
                      obtain ⟨y255, hy255, hF⟩ := bnd_some hF
                      have J255 : ∀ (H : Heap) (locs : List Loc) (ls : Array Slot), va_P D classes (wld ct ad G M238) H → va_D A (wld ct ad G M238) → va_S A s.heap H locs → lv_has ls 7 [(5, .int y189.2), (4, .int (1 : Int32)), (3, .int x5), (2, .int x1), (0, .ref (ad a)), (1, .int p0)] → W p l e (headSpec wuX0_chooseByChance ({ frames := 6, cells := 0, slots := 0, locals := 162 })).room s m ([.ref (ad a), .int p0] : List Value).toArray below meth c H locs 0 0 (MQ below (va_Qv (fun (_ : Unit) => True) (fun _ t => kE D ct ad G A y t) A) ([.ref (ad a), .int p0] : List Value).toArray s 0 0 A) (F0 m 297 ls [.int y255]) := by
                        intro H locs ls hP hD hS hl
                        obtain rfl := Option.some.inj hF
                        exact J253 _ _ _ hP hD hS (lv_sub hl [0, 1, 2, 3, 4, 5] rfl)
                      clear hF
                      have hF := hy255
                      clear hy255
                      refine lv_icmp_ge (tgt := 296) hx hb dX0_chooseByChance_289 (by decide) (fun c256 => ?_) (fun c256 => ?_)
                      · rw [if_pos c256] at hF
                        refine lv_iconst (v := (3 : Int32)) hx hb dX0_chooseByChance_296 (by decide) ?_
                        obtain rfl := Option.some.inj hF
                        exact J255 _ _ _ hP hD hS (lv_sub hl [0, 1, 2, 3, 4, 5] rfl)
                      · rw [if_neg c256] at hF
                        refine lv_iconst (v := (2 : Int32)) hx hb dX0_chooseByChance_292 (by decide) ?_
                        refine lv_goto (tgt := 297) hx hb dX0_chooseByChance_293 (by decide) ?_
                        obtain rfl := Option.some.inj hF
                        exact J255 _ _ _ hP hD hS (lv_sub hl [0, 1, 2, 3, 4, 5] rfl)
                    · rw [if_neg c254] at hF
                      refine lv_iconst (v := (1 : Int32)) hx hb dX0_chooseByChance_281 (by decide) ?_
                      refine lv_goto (tgt := 297) hx hb dX0_chooseByChance_282 (by decide) ?_
                      obtain rfl := Option.some.inj hF
                      exact J253 _ _ _ hP hD hS (lv_sub hl [0, 1, 2, 3, 4, 5] rfl)
                  · rw [if_neg c252] at hF
                    refine lv_iconst (v := (0 : Int32)) hx hb dX0_chooseByChance_270 (by decide) ?_
                    refine lv_goto (tgt := 297) hx hb dX0_chooseByChance_271 (by decide) ?_
                    obtain rfl := Option.some.inj hF
                    exact J251 _ _ _ hP hD hS (lv_sub hl [0, 1, 2, 3, 4, 5] rfl)
                · rw [if_pos c250] at hF
                  refine lv_iconst (v := (-1 : Int32)) hx hb dX0_chooseByChance_259 (by decide) ?_
                  refine lv_goto (tgt := 297) hx hb dX0_chooseByChance_260 (by decide) ?_
                  obtain rfl := Option.some.inj hF
                  exact J249 _ _ _ hP hD hS (lv_sub hl [0, 1, 2, 3, 4, 5] rfl)
            · rw [if_pos c234] at hF
              refine lv_aload_n hx hb dX0_chooseByChance_158 rfl (lv_at hl 4 rfl) ?_
              refine va_get (D := D) (ci := 0) (v := va_re ad (y189.1.2 a 3)) (C := RX0) (T := TX0) (N := 21) hx hb hts (mus hf_X0) hown hK hP a (wld_o ct ad G y189.1 hc hk (by decide)) rfl 3 (by decide) (hts (.fieldLink RX0 36 "VideoSuite$Coder" "work" "LVideoSuite$Work;") (mu mw_817)) (fun _ h9 => h9) rfl dX0_chooseByChance_159 ?_
              obtain ⟨b257, ho257, hc257, hk257, hF⟩ := dr_some hF
              refine W_st (st' := [.ref (ad b257)]) (by rw [va_some ho257]) ?_
              refine va_get (D := D) (ci := 9) (v := va_re ad (y189.1.2 b257 6)) (C := RX9) (T := TX9) (N := 20) hx hb hts (mus hf_X9) hown hK hP b257 (wld_o ct ad G y189.1 hc257 hk257 (by decide)) rfl 6 (by decide) (hts (.fieldLink RX0 216 "VideoSuite$Work" "info" "[I") (mu mw_445)) (fun _ h9 => h9) rfl dX0_chooseByChance_162 ?_
              refine lv_iload_n hx hb dX0_chooseByChance_165 rfl (lv_at hl 3 rfl) ?_
              refine lv_iconst (v := (0 : Int32)) hx hb dX0_chooseByChance_166 (by decide) ?_
              refine lv_iadd hx hb dX0_chooseByChance_167 ?_
              obtain ⟨x258, ex258, hF⟩ := ltt_some hF
              refine lv_topi (fun zx258 ezx258 => ?_)
              obtain rfl : x258 = zx258 := ex258.trans ezx258.symm
              refine lv_iconst (v := (0 : Int32)) hx hb dX0_chooseByChance_168 (by decide) ?_
              obtain ⟨b259, ho259, hc259, hk259, hF⟩ := dr_some hF
              refine W_st (st' := [.int (0 : Int32), .int x258, .ref (ad b259)]) (by rw [va_some ho259]) ?_
              obtain ⟨hvc, hF⟩ := chk_some hF
              refine va_iast hx hb hK hP hD hS b259 1 (wld_i ct ad G y189.1 hc259 hk259) rfl hvc dX0_chooseByChance_169 (fun H locs hP hD hS => ?_)
              obtain ⟨M260, eM260, hF⟩ := ltt_some hF
              rw [set_i ct ad G y189.1 hc259 hk259, ← eM260] at hP hD
              refine lv_iconst (v := (0 : Int32)) hx hb dX0_chooseByChance_170 (by decide) ?_
              refine lv_istore (lv' := [(6, .int (0 : Int32)), (5, .int y189.2), (4, .int (1 : Int32)), (3, .int x5), (2, .int x1), (0, .ref (ad a)), (1, .int p0)]) hx hb dX0_chooseByChance_171 hl (by decide) rfl (fun ls hl => ?_)
              obtain ⟨y261, hy261, hF⟩ := bnd_some hF
              have K261 : ∀ (H : Heap) (locs : List Loc) (ls : Array Slot), va_P D classes (wld ct ad G y261.2) H → va_D A (wld ct ad G y261.2) → va_S A s.heap H locs → lv_has ls 7 [(6, .int y261.1), (5, .int y189.2), (4, .int (1 : Int32)), (3, .int x5), (2, .int x1), (0, .ref (ad a)), (1, .int p0)] → W p l e (headSpec wuX0_chooseByChance ({ frames := 6, cells := 0, slots := 0, locals := 162 })).room s m ([.ref (ad a), .int p0] : List Value).toArray below meth c H locs 0 0 (MQ below (va_Qv (fun (_ : Unit) => True) (fun _ t => kE D ct ad G A y t) A) ([.ref (ad a), .int p0] : List Value).toArray s 0 0 A) (F0 m 215 ls []) := by
                intro H locs ls hP hD hS hl
                refine lv_aload_n hx hb dX0_chooseByChance_215 rfl (lv_at hl 5 rfl) ?_
                refine va_get (D := D) (ci := 0) (v := va_re ad (y261.2.2 a 3)) (C := RX0) (T := TX0) (N := 21) hx hb hts (mus hf_X0) hown hK hP a (wld_o ct ad G y261.2 hc hk (by decide)) rfl 3 (by decide) (hts (.fieldLink RX0 36 "VideoSuite$Coder" "work" "LVideoSuite$Work;") (mu mw_817)) (fun _ h9 => h9) rfl dX0_chooseByChance_216 ?_
                obtain ⟨b264, ho264, hc264, hk264, hF⟩ := dr_some hF
                refine W_st (st' := [.ref (ad b264)]) (by rw [va_some ho264]) ?_
                refine va_get (D := D) (ci := 9) (v := va_re ad (y261.2.2 b264 6)) (C := RX9) (T := TX9) (N := 20) hx hb hts (mus hf_X9) hown hK hP b264 (wld_o ct ad G y261.2 hc264 hk264 (by decide)) rfl 6 (by decide) (hts (.fieldLink RX0 216 "VideoSuite$Work" "info" "[I") (mu mw_445)) (fun _ h9 => h9) rfl dX0_chooseByChance_219 ?_
                refine lv_iload_n hx hb dX0_chooseByChance_222 rfl (lv_at hl 4 rfl) ?_
                refine lv_iconst (v := (5 : Int32)) hx hb dX0_chooseByChance_223 (by decide) ?_
                refine lv_iadd hx hb dX0_chooseByChance_224 ?_
                obtain ⟨x265, ex265, hF⟩ := ltt_some hF
                refine lv_topi (fun zx265 ezx265 => ?_)
                obtain rfl : x265 = zx265 := ex265.trans ezx265.symm
                refine lv_aload_n hx hb dX0_chooseByChance_225 rfl (lv_at hl 5 rfl) ?_
                refine lv_iconst (v := (-1 : Int32)) hx hb dX0_chooseByChance_226 (by decide) ?_
                refine lv_iconst (v := (4 : Int32)) hx hb dX0_chooseByChance_227 (by decide) ?_
                refine lv_iload hx hb dX0_chooseByChance_228 (lv_at hl 1 rfl) ?_
                obtain ⟨y266, hy266, hF⟩ := bnd_some hF
                have hf9 := wA_in hD hA9 hS
                refine va_calli (va_runV (As := [.int (-1 : Int32), .int (4 : Int32), .int y189.2]) (rest := [.int x265, va_re ad (y261.2.2 b264 6)]) ⟨hx, hb, hml, hown, hts⟩ (kX0_drawMode l D ct ad Z G y261.2 H.size a ((-1 : Int32)) ((4 : Int32)) y189.2 y266 hc hk hy266) (cwV 3 hts gX0_chooseByChance_X0_drawMode rfl rfl rfl (by decide +kernel) ⟨Nat.le_of_ble_eq_true rfl, Nat.le_of_ble_eq_true rfl⟩) ⟨fun a U g mk q => by obtain ⟨q0, q1, qP, qK, qD, qZ, qN⟩ := q; exact ⟨q0, q1, qP, va_K.moved (u := U) (U := U.calling g mk a) (Vm.Alike.refl U.vm) qK, qD, sF.moved (u := U) (U := U.calling g mk a) (Vm.Alike.refl U.vm) qZ, nF.same rfl qN⟩, va_recv hK hP (ci := 0) (q0 := a) rfl (wld_o ct ad G y261.2 hc hk (by decide)), fun U hU hW => ⟨rfl, by rw [hU], by rw [hU]; exact hP, va_K.moved hW.alike hK, hD.weaken (fun _ _ _ _ => trivial), by rw [hU]; exact ((hZ.kept hS.2.1).narrow hf9).moved hW.alike, hN.warm hW⟩⟩ rfl rfl hl.1 rfl (lv_room (by simp only [List.map, va_re_cat]; exact Nat.le_of_ble_eq_true rfl)) dX0_chooseByChance_230 ⟨(Nat.zero_le _), (Nat.zero_le _)⟩) hS (fun q _ h => hf9 q h) hf9 (fun r u t H locs ht hvm hw hB hz1 hk1 hS => ?_)
                obtain ⟨hP, hK9, hD9⟩ := hB
                rw [ht] at hP
                try dsimp only at hw
                subst hw
                have hD := hD9.weaken (fun _ q _ h => hf9 q.1 h)
                obtain ⟨b267, ho267, hc267, hk267, hF⟩ := dr_some hF
                refine W_st (st' := [.int y266.2, .int x265, .ref (ad b267)]) (by rw [va_some ho267]) ?_
                obtain ⟨hvc, hF⟩ := chk_some hF
                refine va_iast hx hb hK hP hD hS b267 1 (wld_i ct ad G y266.1 hc267 hk267) rfl hvc dX0_chooseByChance_233 (fun H locs hP hD hS => ?_)
                obtain ⟨M268, eM268, hF⟩ := ltt_some hF
                rw [set_i ct ad G y266.1 hc267 hk267, ← eM268] at hP hD
                refine lv_goto (tgt := 345) hx hb dX0_chooseByChance_234 (by decide) ?_
                obtain rfl := Option.some.inj hF
                exact J233 _ _ _ hP hD hS (lv_sub hl [0, 1, 2, 3, 4, 5, 6] rfl)
              clear hF
              refine itr_rule (fun (s262 : Int32 × DD) => ∀ (H : Heap) (locs : List Loc) (ls : Array Slot), va_P D classes (wld ct ad G s262.2) H → va_D A (wld ct ad G s262.2) → va_S A s.heap H locs → lv_has ls 7 [(6, .int s262.1), (5, .int y189.2), (4, .int (1 : Int32)), (3, .int x5), (2, .int x1), (0, .ref (ad a)), (1, .int p0)] → W p l e (headSpec wuX0_chooseByChance ({ frames := 6, cells := 0, slots := 0, locals := 162 })).room s m ([.ref (ad a), .int p0] : List Value).toArray below meth c H locs 0 0 (MQ below (va_Qv (fun (_ : Unit) => True) (fun _ t => kE D ct ad G A y t) A) ([.ref (ad a), .int p0] : List Value).toArray s 0 0 A) (F0 m 173 ls [])) ?_ _ _ hy261 _ _ _ hP hD hS (lv_sub hl [0, 1, 2, 3, 4, 5, 6] rfl)
              rintro s262 ⟨z269, hF, hwz269⟩ H locs ls hP hD hS hl
              try dsimp only at hF
              refine lv_iload hx hb dX0_chooseByChance_173 (lv_at hl 0 rfl) ?_
              refine lv_bipush (v := (16 : Int32)) hx hb dX0_chooseByChance_175 (by decide) ?_
              refine lv_icmp_ge (tgt := 215) hx hb dX0_chooseByChance_177 (by decide) (fun c270 => ?_) (fun c270 => ?_)
              · rw [if_pos c270] at hF
                obtain rfl := Option.some.inj hF
                subst hwz269
                exact K261 _ _ _ hP hD hS (lv_sub hl [0, 1, 2, 3, 4, 5, 6] rfl)
              · rw [if_neg c270] at hF
                refine lv_aload_n hx hb dX0_chooseByChance_180 rfl (lv_at hl 5 rfl) ?_
                refine va_get (D := D) (ci := 0) (v := va_re ad (s262.2.2 a 3)) (C := RX0) (T := TX0) (N := 21) hx hb hts (mus hf_X0) hown hK hP a (wld_o ct ad G s262.2 hc hk (by decide)) rfl 3 (by decide) (hts (.fieldLink RX0 36 "VideoSuite$Coder" "work" "LVideoSuite$Work;") (mu mw_817)) (fun _ h9 => h9) rfl dX0_chooseByChance_181 ?_
                obtain ⟨b271, ho271, hc271, hk271, hF⟩ := dr_some hF
                refine W_st (st' := [.ref (ad b271)]) (by rw [va_some ho271]) ?_
                refine va_get (D := D) (ci := 9) (v := va_re ad (s262.2.2 b271 7)) (C := RX9) (T := TX9) (N := 20) hx hb hts (mus hf_X9) hown hK hP b271 (wld_o ct ad G s262.2 hc271 hk271 (by decide)) rfl 7 (by decide) (hts (.fieldLink RX0 356 "VideoSuite$Work" "mode" "[I") (mu mw_448)) (fun _ h9 => h9) rfl dX0_chooseByChance_184 ?_
                refine lv_bipush (v := (16 : Int32)) hx hb dX0_chooseByChance_187 (by decide) ?_
                refine lv_iload_n hx hb dX0_chooseByChance_189 rfl (lv_at hl 6 rfl) ?_
                refine lv_imul hx hb dX0_chooseByChance_190 ?_
                obtain ⟨x272, ex272, hF⟩ := ltt_some hF
                refine lv_topi (fun zx272 ezx272 => ?_)
                obtain rfl : x272 = zx272 := ex272.trans ezx272.symm
                refine lv_iload hx hb dX0_chooseByChance_191 (lv_at hl 0 rfl) ?_
                refine lv_iadd hx hb dX0_chooseByChance_193 ?_
                obtain ⟨x273, ex273, hF⟩ := ltt_some hF
                refine lv_topi (fun zx273 ezx273 => ?_)
                obtain rfl : x273 = zx273 := ex273.trans ezx273.symm
                refine lv_aload_n hx hb dX0_chooseByChance_194 rfl (lv_at hl 5 rfl) ?_
                refine lv_iconst (v := (0 : Int32)) hx hb dX0_chooseByChance_195 (by decide) ?_
                refine lv_bipush (v := (9 : Int32)) hx hb dX0_chooseByChance_196 (by decide) ?_
                refine lv_iload hx hb dX0_chooseByChance_198 (lv_at hl 0 rfl) ?_
                refine lv_iload hx hb dX0_chooseByChance_200 (lv_at hl 1 rfl) ?_
                obtain ⟨y274, hy274, hF⟩ := bnd_some hF
                have hf9 := wA_in hD hA9 hS
                refine va_calli (va_runS (As := [.int s262.1, .int y189.2]) (rest := [.int (9 : Int32), .int (0 : Int32), .ref (ad a), .int x273, va_re ad (s262.2.2 b271 7)]) ⟨hx, hb, hml, hown, hts⟩ (kX9_sidesOf l D ct ad Z G s262.2 H.size s262.1 y189.2 y274 hy274) (va_cwS 2 hts gX0_chooseByChance_X9_sidesOf rfl rfl rfl (by decide +kernel) ⟨Nat.le_of_ble_eq_true rfl, Nat.le_of_ble_eq_true rfl⟩) ⟨fun a U g mk q => by obtain ⟨q0, q1, qP, qK, qD, qZ, qN⟩ := q; exact ⟨q0, q1, qP, va_K.moved (u := U) (U := U.calling g mk a) (Vm.Alike.refl U.vm) qK, qD, sF.moved (u := U) (U := U.calling g mk a) (Vm.Alike.refl U.vm) qZ, nF.same rfl qN⟩, fun U hU hW => ⟨rfl, by rw [hU], by rw [hU]; exact hP, va_K.moved hW.alike hK, hD.weaken (fun _ _ _ _ => trivial), by rw [hU]; exact ((hZ.kept hS.2.1).narrow hf9).moved hW.alike, hN.warm hW⟩⟩ rfl rfl hl.1 rfl (lv_room (by simp only [List.map, va_re_cat]; exact Nat.le_of_ble_eq_true rfl)) dX0_chooseByChance_202 ⟨(Nat.zero_le _), (Nat.zero_le _)⟩) hS (fun q _ h => hf9 q h) hf9 (fun r u t H locs ht hvm hw hB hz1 hk1 hS => ?_)
                obtain ⟨hP, hK9, hD9⟩ := hB
                rw [ht] at hP
                try dsimp only at hw
                subst hw
                have hD := hD9.weaken (fun _ q _ h => hf9 q.1 h)
                obtain ⟨y275, hy275, hF⟩ := bnd_some hF
                have hf9 := wA_in hD hA9 hS
                refine va_calli (va_runV (As := [.int (0 : Int32), .int (9 : Int32), .int y274.2]) (rest := [.int x273, va_re ad (s262.2.2 b271 7)]) ⟨hx, hb, hml, hown, hts⟩ (kX0_drawMode l D ct ad Z G y274.1 H.size a ((0 : Int32)) ((9 : Int32)) y274.2 y275 hc hk hy275) (cwV 3 hts gX0_chooseByChance_X0_drawMode rfl rfl rfl (by decide +kernel) ⟨Nat.le_of_ble_eq_true rfl, Nat.le_of_ble_eq_true rfl⟩) ⟨fun a U g mk q => by obtain ⟨q0, q1, qP, qK, qD, qZ, qN⟩ := q; exact ⟨q0, q1, qP, va_K.moved (u := U) (U := U.calling g mk a) (Vm.Alike.refl U.vm) qK, qD, sF.moved (u := U) (U := U.calling g mk a) (Vm.Alike.refl U.vm) qZ, nF.same rfl qN⟩, va_recv hK hP (ci := 0) (q0 := a) rfl (wld_o ct ad G y274.1 hc hk (by decide)), fun U hU hW => ⟨rfl, by rw [hU], by rw [hU]; exact hP, va_K.moved hW.alike hK, hD.weaken (fun _ _ _ _ => trivial), by rw [hU]; exact ((hZ.kept hS.2.1).narrow hf9).moved hW.alike, hN.warm hW⟩⟩ rfl rfl hl.1 rfl (lv_room (by simp only [List.map, va_re_cat]; exact Nat.le_of_ble_eq_true rfl)) dX0_chooseByChance_205 ⟨(Nat.zero_le _), (Nat.zero_le _)⟩) hS (fun q _ h => hf9 q h) hf9 (fun r u t H locs ht hvm hw hB hz1 hk1 hS => ?_)
                obtain ⟨hP, hK9, hD9⟩ := hB
                rw [ht] at hP
                try dsimp only at hw
                subst hw
                have hD := hD9.weaken (fun _ q _ h => hf9 q.1 h)
                obtain ⟨b276, ho276, hc276, hk276, hF⟩ := dr_some hF
                refine W_st (st' := [.int y275.2, .int x273, .ref (ad b276)]) (by rw [va_some ho276]) ?_
                obtain ⟨hvc, hF⟩ := chk_some hF
                refine va_iast hx hb hK hP hD hS b276 1 (wld_i ct ad G y275.1 hc276 hk276) rfl hvc dX0_chooseByChance_208 (fun H locs hP hD hS => ?_)
                obtain ⟨M277, eM277, hF⟩ := ltt_some hF
                rw [set_i ct ad G y275.1 hc276 hk276, ← eM277] at hP hD
                obtain ⟨x278, ex278, hF⟩ := ltt_some hF
                refine lv_iinc (v := x278) (lv' := [(6, .int x278), (5, .int y189.2), (4, .int (1 : Int32)), (3, .int x5), (2, .int x1), (0, .ref (ad a)), (1, .int p0)]) hx hb dX0_chooseByChance_209 hl (k := 0) rfl (by rw [ex278]; rfl) (by decide) rfl (fun ls hl => ?_)
                refine lv_goto (tgt := 173) hx hb dX0_chooseByChance_212 (by decide) ?_
                obtain rfl := Option.some.inj hF
                exact hwz269 _ _ _ hP hD hS (lv_sub hl [0, 1, 2, 3, 4, 5, 6] rfl)
        · rw [if_pos c208] at hF
          refine lv_iload hx hb dX0_chooseByChance_77 (lv_at hl 1 rfl) ?_
          refine lv_bipush (v := (8 : Int32)) hx hb dX0_chooseByChance_79 (by decide) ?_
          obtain ⟨y279, hy279, hF⟩ := bnd_some hF
          have J279 : ∀ (H : Heap) (locs : List Loc) (ls : Array Slot), va_P D classes (wld ct ad G y279) H → va_D A (wld ct ad G y279) → va_S A s.heap H locs → lv_has ls 7 [(5, .int y189.2), (4, .int (1 : Int32)), (3, .int x5), (2, .int x1), (0, .ref (ad a)), (1, .int p0)] → W p l e (headSpec wuX0_chooseByChance ({ frames := 6, cells := 0, slots := 0, locals := 162 })).room s m ([.ref (ad a), .int p0] : List Value).toArray below meth c H locs 0 0 (MQ below (va_Qv (fun (_ : Unit) => True) (fun _ t => kE D ct ad G A y t) A) ([.ref (ad a), .int p0] : List Value).toArray s 0 0 A) (F0 m 345 ls []) := by
            intro H locs ls hP hD hS hl
            obtain rfl := Option.some.inj hF
            exact J207 _ _ _ hP hD hS (lv_sub hl [0, 1, 2, 3, 4, 5] rfl)
          clear hF
          have hF := hy279
          clear hy279
          refine lv_icmp_ge (tgt := 147) hx hb dX0_chooseByChance_81 (by decide) (fun c280 => ?_) (fun c280 => ?_)
          · rw [if_pos c280] at hF
            refine lv_iload hx hb dX0_chooseByChance_147 (lv_at hl 1 rfl) ?_
            refine lv_iconst (v := (2 : Int32)) hx hb dX0_chooseByChance_149 (by decide) ?_
            obtain ⟨y281, hy281, hF⟩ := bnd_some hF
            have J281 : ∀ (H : Heap) (locs : List Loc) (ls : Array Slot), va_P D classes (wld ct ad G y281.2) H → va_D A (wld ct ad G y281.2) → va_S A s.heap H locs → lv_has ls 7 [(6, .int y281.1), (5, .int y189.2), (4, .int (1 : Int32)), (3, .int x5), (2, .int x1), (0, .ref (ad a)), (1, .int p0)] → W p l e (headSpec wuX0_chooseByChance ({ frames := 6, cells := 0, slots := 0, locals := 162 })).room s m ([.ref (ad a), .int p0] : List Value).toArray below meth c H locs 0 0 (MQ below (va_Qv (fun (_ : Unit) => True) (fun _ t => kE D ct ad G A y t) A) ([.ref (ad a), .int p0] : List Value).toArray s 0 0 A) (F0 m 345 ls []) := by
              intro H locs ls hP hD hS hl
              obtain rfl := Option.some.inj hF
              exact J279 _ _ _ hP hD hS (lv_sub hl [1, 2, 3, 4, 5, 6] rfl)
            clear hF
            have hF := hy281
            clear hy281
            refine lv_icmp_eq (tgt := 158) hx hb dX0_chooseByChance_150 (by decide) (fun c282 => ?_) (fun c282 => ?_)
            · rw [if_pos c282] at hF
              refine lv_aload_n hx hb dX0_chooseByChance_158 rfl (lv_at hl 4 rfl) ?_
              refine va_get (D := D) (ci := 0) (v := va_re ad (y189.1.2 a 3)) (C := RX0) (T := TX0) (N := 21) hx hb hts (mus hf_X0) hown hK hP a (wld_o ct ad G y189.1 hc hk (by decide)) rfl 3 (by decide) (hts (.fieldLink RX0 36 "VideoSuite$Coder" "work" "LVideoSuite$Work;") (mu mw_817)) (fun _ h9 => h9) rfl dX0_chooseByChance_159 ?_
              obtain ⟨b283, ho283, hc283, hk283, hF⟩ := dr_some hF
              refine W_st (st' := [.ref (ad b283)]) (by rw [va_some ho283]) ?_
              refine va_get (D := D) (ci := 9) (v := va_re ad (y189.1.2 b283 6)) (C := RX9) (T := TX9) (N := 20) hx hb hts (mus hf_X9) hown hK hP b283 (wld_o ct ad G y189.1 hc283 hk283 (by decide)) rfl 6 (by decide) (hts (.fieldLink RX0 216 "VideoSuite$Work" "info" "[I") (mu mw_445)) (fun _ h9 => h9) rfl dX0_chooseByChance_162 ?_
              refine lv_iload_n hx hb dX0_chooseByChance_165 rfl (lv_at hl 3 rfl) ?_
              refine lv_iconst (v := (0 : Int32)) hx hb dX0_chooseByChance_166 (by decide) ?_
              refine lv_iadd hx hb dX0_chooseByChance_167 ?_
              obtain ⟨x284, ex284, hF⟩ := ltt_some hF
              refine lv_topi (fun zx284 ezx284 => ?_)
              obtain rfl : x284 = zx284 := ex284.trans ezx284.symm
              refine lv_iconst (v := (0 : Int32)) hx hb dX0_chooseByChance_168 (by decide) ?_
              obtain ⟨b285, ho285, hc285, hk285, hF⟩ := dr_some hF
              refine W_st (st' := [.int (0 : Int32), .int x284, .ref (ad b285)]) (by rw [va_some ho285]) ?_
              obtain ⟨hvc, hF⟩ := chk_some hF
              refine va_iast hx hb hK hP hD hS b285 1 (wld_i ct ad G y189.1 hc285 hk285) rfl hvc dX0_chooseByChance_169 (fun H locs hP hD hS => ?_)
              obtain ⟨M286, eM286, hF⟩ := ltt_some hF
              rw [set_i ct ad G y189.1 hc285 hk285, ← eM286] at hP hD
              refine lv_iconst (v := (0 : Int32)) hx hb dX0_chooseByChance_170 (by decide) ?_
              refine lv_istore (lv' := [(6, .int (0 : Int32)), (5, .int y189.2), (4, .int (1 : Int32)), (3, .int x5), (2, .int x1), (0, .ref (ad a)), (1, .int p0)]) hx hb dX0_chooseByChance_171 hl (by decide) rfl (fun ls hl => ?_)
              obtain ⟨y287, hy287, hF⟩ := bnd_some hF
              have K287 : ∀ (H : Heap) (locs : List Loc) (ls : Array Slot), va_P D classes (wld ct ad G y287.2) H → va_D A (wld ct ad G y287.2) → va_S A s.heap H locs → lv_has ls 7 [(6, .int y287.1), (5, .int y189.2), (4, .int (1 : Int32)), (3, .int x5), (2, .int x1), (0, .ref (ad a)), (1, .int p0)] → W p l e (headSpec wuX0_chooseByChance ({ frames := 6, cells := 0, slots := 0, locals := 162 })).room s m ([.ref (ad a), .int p0] : List Value).toArray below meth c H locs 0 0 (MQ below (va_Qv (fun (_ : Unit) => True) (fun _ t => kE D ct ad G A y t) A) ([.ref (ad a), .int p0] : List Value).toArray s 0 0 A) (F0 m 215 ls []) := by
                intro H locs ls hP hD hS hl
                refine lv_aload_n hx hb dX0_chooseByChance_215 rfl (lv_at hl 5 rfl) ?_
                refine va_get (D := D) (ci := 0) (v := va_re ad (y287.2.2 a 3)) (C := RX0) (T := TX0) (N := 21) hx hb hts (mus hf_X0) hown hK hP a (wld_o ct ad G y287.2 hc hk (by decide)) rfl 3 (by decide) (hts (.fieldLink RX0 36 "VideoSuite$Coder" "work" "LVideoSuite$Work;") (mu mw_817)) (fun _ h9 => h9) rfl dX0_chooseByChance_216 ?_
                obtain ⟨b290, ho290, hc290, hk290, hF⟩ := dr_some hF
                refine W_st (st' := [.ref (ad b290)]) (by rw [va_some ho290]) ?_
                refine va_get (D := D) (ci := 9) (v := va_re ad (y287.2.2 b290 6)) (C := RX9) (T := TX9) (N := 20) hx hb hts (mus hf_X9) hown hK hP b290 (wld_o ct ad G y287.2 hc290 hk290 (by decide)) rfl 6 (by decide) (hts (.fieldLink RX0 216 "VideoSuite$Work" "info" "[I") (mu mw_445)) (fun _ h9 => h9) rfl dX0_chooseByChance_219 ?_
                refine lv_iload_n hx hb dX0_chooseByChance_222 rfl (lv_at hl 4 rfl) ?_
                refine lv_iconst (v := (5 : Int32)) hx hb dX0_chooseByChance_223 (by decide) ?_
                refine lv_iadd hx hb dX0_chooseByChance_224 ?_
                obtain ⟨x291, ex291, hF⟩ := ltt_some hF
                refine lv_topi (fun zx291 ezx291 => ?_)
                obtain rfl : x291 = zx291 := ex291.trans ezx291.symm
                refine lv_aload_n hx hb dX0_chooseByChance_225 rfl (lv_at hl 5 rfl) ?_
                refine lv_iconst (v := (-1 : Int32)) hx hb dX0_chooseByChance_226 (by decide) ?_
                refine lv_iconst (v := (4 : Int32)) hx hb dX0_chooseByChance_227 (by decide) ?_
                refine lv_iload hx hb dX0_chooseByChance_228 (lv_at hl 1 rfl) ?_
                obtain ⟨y292, hy292, hF⟩ := bnd_some hF
                have hf9 := wA_in hD hA9 hS
                refine va_calli (va_runV (As := [.int (-1 : Int32), .int (4 : Int32), .int y189.2]) (rest := [.int x291, va_re ad (y287.2.2 b290 6)]) ⟨hx, hb, hml, hown, hts⟩ (kX0_drawMode l D ct ad Z G y287.2 H.size a ((-1 : Int32)) ((4 : Int32)) y189.2 y292 hc hk hy292) (cwV 3 hts gX0_chooseByChance_X0_drawMode rfl rfl rfl (by decide +kernel) ⟨Nat.le_of_ble_eq_true rfl, Nat.le_of_ble_eq_true rfl⟩) ⟨fun a U g mk q => by obtain ⟨q0, q1, qP, qK, qD, qZ, qN⟩ := q; exact ⟨q0, q1, qP, va_K.moved (u := U) (U := U.calling g mk a) (Vm.Alike.refl U.vm) qK, qD, sF.moved (u := U) (U := U.calling g mk a) (Vm.Alike.refl U.vm) qZ, nF.same rfl qN⟩, va_recv hK hP (ci := 0) (q0 := a) rfl (wld_o ct ad G y287.2 hc hk (by decide)), fun U hU hW => ⟨rfl, by rw [hU], by rw [hU]; exact hP, va_K.moved hW.alike hK, hD.weaken (fun _ _ _ _ => trivial), by rw [hU]; exact ((hZ.kept hS.2.1).narrow hf9).moved hW.alike, hN.warm hW⟩⟩ rfl rfl hl.1 rfl (lv_room (by simp only [List.map, va_re_cat]; exact Nat.le_of_ble_eq_true rfl)) dX0_chooseByChance_230 ⟨(Nat.zero_le _), (Nat.zero_le _)⟩) hS (fun q _ h => hf9 q h) hf9 (fun r u t H locs ht hvm hw hB hz1 hk1 hS => ?_)
                obtain ⟨hP, hK9, hD9⟩ := hB
                rw [ht] at hP
                try dsimp only at hw
                subst hw
                have hD := hD9.weaken (fun _ q _ h => hf9 q.1 h)
                obtain ⟨b293, ho293, hc293, hk293, hF⟩ := dr_some hF
                refine W_st (st' := [.int y292.2, .int x291, .ref (ad b293)]) (by rw [va_some ho293]) ?_
                obtain ⟨hvc, hF⟩ := chk_some hF
                refine va_iast hx hb hK hP hD hS b293 1 (wld_i ct ad G y292.1 hc293 hk293) rfl hvc dX0_chooseByChance_233 (fun H locs hP hD hS => ?_)
                obtain ⟨M294, eM294, hF⟩ := ltt_some hF
                rw [set_i ct ad G y292.1 hc293 hk293, ← eM294] at hP hD
                refine lv_goto (tgt := 345) hx hb dX0_chooseByChance_234 (by decide) ?_
                obtain rfl := Option.some.inj hF
                exact J281 _ _ _ hP hD hS (lv_sub hl [0, 1, 2, 3, 4, 5, 6] rfl)
              clear hF
              refine itr_rule (fun (s288 : Int32 × DD) => ∀ (H : Heap) (locs : List Loc) (ls : Array Slot), va_P D classes (wld ct ad G s288.2) H → va_D A (wld ct ad G s288.2) → va_S A s.heap H locs → lv_has ls 7 [(6, .int s288.1), (5, .int y189.2), (4, .int (1 : Int32)), (3, .int x5), (2, .int x1), (0, .ref (ad a)), (1, .int p0)] → W p l e (headSpec wuX0_chooseByChance ({ frames := 6, cells := 0, slots := 0, locals := 162 })).room s m ([.ref (ad a), .int p0] : List Value).toArray below meth c H locs 0 0 (MQ below (va_Qv (fun (_ : Unit) => True) (fun _ t => kE D ct ad G A y t) A) ([.ref (ad a), .int p0] : List Value).toArray s 0 0 A) (F0 m 173 ls [])) ?_ _ _ hy287 _ _ _ hP hD hS (lv_sub hl [0, 1, 2, 3, 4, 5, 6] rfl)
              rintro s288 ⟨z295, hF, hwz295⟩ H locs ls hP hD hS hl
              try dsimp only at hF
              refine lv_iload hx hb dX0_chooseByChance_173 (lv_at hl 0 rfl) ?_
              refine lv_bipush (v := (16 : Int32)) hx hb dX0_chooseByChance_175 (by decide) ?_
              refine lv_icmp_ge (tgt := 215) hx hb dX0_chooseByChance_177 (by decide) (fun c296 => ?_) (fun c296 => ?_)
              · rw [if_pos c296] at hF
                obtain rfl := Option.some.inj hF
                subst hwz295
                exact K287 _ _ _ hP hD hS (lv_sub hl [0, 1, 2, 3, 4, 5, 6] rfl)
              · rw [if_neg c296] at hF
                refine lv_aload_n hx hb dX0_chooseByChance_180 rfl (lv_at hl 5 rfl) ?_
                refine va_get (D := D) (ci := 0) (v := va_re ad (s288.2.2 a 3)) (C := RX0) (T := TX0) (N := 21) hx hb hts (mus hf_X0) hown hK hP a (wld_o ct ad G s288.2 hc hk (by decide)) rfl 3 (by decide) (hts (.fieldLink RX0 36 "VideoSuite$Coder" "work" "LVideoSuite$Work;") (mu mw_817)) (fun _ h9 => h9) rfl dX0_chooseByChance_181 ?_
                obtain ⟨b297, ho297, hc297, hk297, hF⟩ := dr_some hF
                refine W_st (st' := [.ref (ad b297)]) (by rw [va_some ho297]) ?_
                refine va_get (D := D) (ci := 9) (v := va_re ad (s288.2.2 b297 7)) (C := RX9) (T := TX9) (N := 20) hx hb hts (mus hf_X9) hown hK hP b297 (wld_o ct ad G s288.2 hc297 hk297 (by decide)) rfl 7 (by decide) (hts (.fieldLink RX0 356 "VideoSuite$Work" "mode" "[I") (mu mw_448)) (fun _ h9 => h9) rfl dX0_chooseByChance_184 ?_
                refine lv_bipush (v := (16 : Int32)) hx hb dX0_chooseByChance_187 (by decide) ?_
                refine lv_iload_n hx hb dX0_chooseByChance_189 rfl (lv_at hl 6 rfl) ?_
                refine lv_imul hx hb dX0_chooseByChance_190 ?_
                obtain ⟨x298, ex298, hF⟩ := ltt_some hF
                refine lv_topi (fun zx298 ezx298 => ?_)
                obtain rfl : x298 = zx298 := ex298.trans ezx298.symm
                refine lv_iload hx hb dX0_chooseByChance_191 (lv_at hl 0 rfl) ?_
                refine lv_iadd hx hb dX0_chooseByChance_193 ?_
                obtain ⟨x299, ex299, hF⟩ := ltt_some hF
                refine lv_topi (fun zx299 ezx299 => ?_)
                obtain rfl : x299 = zx299 := ex299.trans ezx299.symm
                refine lv_aload_n hx hb dX0_chooseByChance_194 rfl (lv_at hl 5 rfl) ?_
                refine lv_iconst (v := (0 : Int32)) hx hb dX0_chooseByChance_195 (by decide) ?_
                refine lv_bipush (v := (9 : Int32)) hx hb dX0_chooseByChance_196 (by decide) ?_
                refine lv_iload hx hb dX0_chooseByChance_198 (lv_at hl 0 rfl) ?_
                refine lv_iload hx hb dX0_chooseByChance_200 (lv_at hl 1 rfl) ?_
                obtain ⟨y300, hy300, hF⟩ := bnd_some hF
                have hf9 := wA_in hD hA9 hS
                refine va_calli (va_runS (As := [.int s288.1, .int y189.2]) (rest := [.int (9 : Int32), .int (0 : Int32), .ref (ad a), .int x299, va_re ad (s288.2.2 b297 7)]) ⟨hx, hb, hml, hown, hts⟩ (kX9_sidesOf l D ct ad Z G s288.2 H.size s288.1 y189.2 y300 hy300) (va_cwS 2 hts gX0_chooseByChance_X9_sidesOf rfl rfl rfl (by decide +kernel) ⟨Nat.le_of_ble_eq_true rfl, Nat.le_of_ble_eq_true rfl⟩) ⟨fun a U g mk q => by obtain ⟨q0, q1, qP, qK, qD, qZ, qN⟩ := q; exact ⟨q0, q1, qP, va_K.moved (u := U) (U := U.calling g mk a) (Vm.Alike.refl U.vm) qK, qD, sF.moved (u := U) (U := U.calling g mk a) (Vm.Alike.refl U.vm) qZ, nF.same rfl qN⟩, fun U hU hW => ⟨rfl, by rw [hU], by rw [hU]; exact hP, va_K.moved hW.alike hK, hD.weaken (fun _ _ _ _ => trivial), by rw [hU]; exact ((hZ.kept hS.2.1).narrow hf9).moved hW.alike, hN.warm hW⟩⟩ rfl rfl hl.1 rfl (lv_room (by simp only [List.map, va_re_cat]; exact Nat.le_of_ble_eq_true rfl)) dX0_chooseByChance_202 ⟨(Nat.zero_le _), (Nat.zero_le _)⟩) hS (fun q _ h => hf9 q h) hf9 (fun r u t H locs ht hvm hw hB hz1 hk1 hS => ?_)
                obtain ⟨hP, hK9, hD9⟩ := hB
                rw [ht] at hP
                try dsimp only at hw
                subst hw
                have hD := hD9.weaken (fun _ q _ h => hf9 q.1 h)
                obtain ⟨y301, hy301, hF⟩ := bnd_some hF
                have hf9 := wA_in hD hA9 hS
                refine va_calli (va_runV (As := [.int (0 : Int32), .int (9 : Int32), .int y300.2]) (rest := [.int x299, va_re ad (s288.2.2 b297 7)]) ⟨hx, hb, hml, hown, hts⟩ (kX0_drawMode l D ct ad Z G y300.1 H.size a ((0 : Int32)) ((9 : Int32)) y300.2 y301 hc hk hy301) (cwV 3 hts gX0_chooseByChance_X0_drawMode rfl rfl rfl (by decide +kernel) ⟨Nat.le_of_ble_eq_true rfl, Nat.le_of_ble_eq_true rfl⟩) ⟨fun a U g mk q => by obtain ⟨q0, q1, qP, qK, qD, qZ, qN⟩ := q; exact ⟨q0, q1, qP, va_K.moved (u := U) (U := U.calling g mk a) (Vm.Alike.refl U.vm) qK, qD, sF.moved (u := U) (U := U.calling g mk a) (Vm.Alike.refl U.vm) qZ, nF.same rfl qN⟩, va_recv hK hP (ci := 0) (q0 := a) rfl (wld_o ct ad G y300.1 hc hk (by decide)), fun U hU hW => ⟨rfl, by rw [hU], by rw [hU]; exact hP, va_K.moved hW.alike hK, hD.weaken (fun _ _ _ _ => trivial), by rw [hU]; exact ((hZ.kept hS.2.1).narrow hf9).moved hW.alike, hN.warm hW⟩⟩ rfl rfl hl.1 rfl (lv_room (by simp only [List.map, va_re_cat]; exact Nat.le_of_ble_eq_true rfl)) dX0_chooseByChance_205 ⟨(Nat.zero_le _), (Nat.zero_le _)⟩) hS (fun q _ h => hf9 q h) hf9 (fun r u t H locs ht hvm hw hB hz1 hk1 hS => ?_)
                obtain ⟨hP, hK9, hD9⟩ := hB
                rw [ht] at hP
                try dsimp only at hw
                subst hw
                have hD := hD9.weaken (fun _ q _ h => hf9 q.1 h)
                obtain ⟨b302, ho302, hc302, hk302, hF⟩ := dr_some hF
                refine W_st (st' := [.int y301.2, .int x299, .ref (ad b302)]) (by rw [va_some ho302]) ?_
                obtain ⟨hvc, hF⟩ := chk_some hF
                refine va_iast hx hb hK hP hD hS b302 1 (wld_i ct ad G y301.1 hc302 hk302) rfl hvc dX0_chooseByChance_208 (fun H locs hP hD hS => ?_)
                obtain ⟨M303, eM303, hF⟩ := ltt_some hF
                rw [set_i ct ad G y301.1 hc302 hk302, ← eM303] at hP hD
                obtain ⟨x304, ex304, hF⟩ := ltt_some hF
                refine lv_iinc (v := x304) (lv' := [(6, .int x304), (5, .int y189.2), (4, .int (1 : Int32)), (3, .int x5), (2, .int x1), (0, .ref (ad a)), (1, .int p0)]) hx hb dX0_chooseByChance_209 hl (k := 0) rfl (by rw [ex304]; rfl) (by decide) rfl (fun ls hl => ?_)
                refine lv_goto (tgt := 173) hx hb dX0_chooseByChance_212 (by decide) ?_
                obtain rfl := Option.some.inj hF
                exact hwz295 _ _ _ hP hD hS (lv_sub hl [0, 1, 2, 3, 4, 5, 6] rfl)
            · rw [if_neg c282] at hF
              refine lv_iload_n hx hb dX0_chooseByChance_153 rfl (lv_at hl 2 rfl) ?_
              refine lv_iconst (v := (2 : Int32)) hx hb dX0_chooseByChance_154 (by decide) ?_
              obtain ⟨y305, hy305, hF⟩ := bnd_some hF
              have J305 : ∀ (H : Heap) (locs : List Loc) (ls : Array Slot), va_P D classes (wld ct ad G y305.2) H → va_D A (wld ct ad G y305.2) → va_S A s.heap H locs → lv_has ls 7 [(6, .int y305.1), (5, .int y189.2), (4, .int (1 : Int32)), (3, .int x5), (2, .int x1), (0, .ref (ad a)), (1, .int p0)] → W p l e (headSpec wuX0_chooseByChance ({ frames := 6, cells := 0, slots := 0, locals := 162 })).room s m ([.ref (ad a), .int p0] : List Value).toArray below meth c H locs 0 0 (MQ below (va_Qv (fun (_ : Unit) => True) (fun _ t => kE D ct ad G A y t) A) ([.ref (ad a), .int p0] : List Value).toArray s 0 0 A) (F0 m 345 ls []) := by
                intro H locs ls hP hD hS hl
                obtain rfl := Option.some.inj hF
                exact J281 _ _ _ hP hD hS (lv_sub hl [0, 1, 2, 3, 4, 5, 6] rfl)
              clear hF
              have hF := hy305
              clear hy305
              refine lv_icmp_ne (tgt := 237) hx hb dX0_chooseByChance_155 (by decide) (fun c306 => ?_) (fun c306 => ?_)
              · rw [if_neg c306] at hF
                refine lv_aload_n hx hb dX0_chooseByChance_237 rfl (lv_at hl 4 rfl) ?_
                refine va_get (D := D) (ci := 0) (v := va_re ad (y189.1.2 a 3)) (C := RX0) (T := TX0) (N := 21) hx hb hts (mus hf_X0) hown hK hP a (wld_o ct ad G y189.1 hc hk (by decide)) rfl 3 (by decide) (hts (.fieldLink RX0 36 "VideoSuite$Coder" "work" "LVideoSuite$Work;") (mu mw_817)) (fun _ h9 => h9) rfl dX0_chooseByChance_238 ?_
                obtain ⟨b307, ho307, hc307, hk307, hF⟩ := dr_some hF
                refine W_st (st' := [.ref (ad b307)]) (by rw [va_some ho307]) ?_
                refine va_get (D := D) (ci := 9) (v := va_re ad (y189.1.2 b307 6)) (C := RX9) (T := TX9) (N := 20) hx hb hts (mus hf_X9) hown hK hP b307 (wld_o ct ad G y189.1 hc307 hk307 (by decide)) rfl 6 (by decide) (hts (.fieldLink RX0 216 "VideoSuite$Work" "info" "[I") (mu mw_445)) (fun _ h9 => h9) rfl dX0_chooseByChance_241 ?_
                refine lv_iload_n hx hb dX0_chooseByChance_244 rfl (lv_at hl 3 rfl) ?_
                refine lv_iconst (v := (0 : Int32)) hx hb dX0_chooseByChance_245 (by decide) ?_
                refine lv_iadd hx hb dX0_chooseByChance_246 ?_
                obtain ⟨x308, ex308, hF⟩ := ltt_some hF
                refine lv_topi (fun zx308 ezx308 => ?_)
                obtain rfl : x308 = zx308 := ex308.trans ezx308.symm
                refine lv_iconst (v := (3 : Int32)) hx hb dX0_chooseByChance_247 (by decide) ?_
                obtain ⟨b309, ho309, hc309, hk309, hF⟩ := dr_some hF
                refine W_st (st' := [.int (3 : Int32), .int x308, .ref (ad b309)]) (by rw [va_some ho309]) ?_
                obtain ⟨hvc, hF⟩ := chk_some hF
                refine va_iast hx hb hK hP hD hS b309 1 (wld_i ct ad G y189.1 hc309 hk309) rfl hvc dX0_chooseByChance_248 (fun H locs hP hD hS => ?_)
                obtain ⟨M310, eM310, hF⟩ := ltt_some hF
                rw [set_i ct ad G y189.1 hc309 hk309, ← eM310] at hP hD
                refine lv_iload_n hx hb dX0_chooseByChance_249 rfl (lv_at hl 2 rfl) ?_
                obtain ⟨y311, hy311, hF⟩ := bnd_some hF
                have J311 : ∀ (H : Heap) (locs : List Loc) (ls : Array Slot), va_P D classes (wld ct ad G y311.2) H → va_D A (wld ct ad G y311.2) → va_S A s.heap H locs → lv_has ls 7 [(6, .int y311.1), (5, .int y189.2), (4, .int (1 : Int32)), (3, .int x5), (2, .int x1), (0, .ref (ad a)), (1, .int p0)] → W p l e (headSpec wuX0_chooseByChance ({ frames := 6, cells := 0, slots := 0, locals := 162 })).room s m ([.ref (ad a), .int p0] : List Value).toArray below meth c H locs 0 0 (MQ below (va_Qv (fun (_ : Unit) => True) (fun _ t => kE D ct ad G A y t) A) ([.ref (ad a), .int p0] : List Value).toArray s 0 0 A) (F0 m 337 ls []) := by
                  intro H locs ls hP hD hS hl
                  refine lv_aload_n hx hb dX0_chooseByChance_337 rfl (lv_at hl 5 rfl) ?_
                  refine lv_iload_n hx hb dX0_chooseByChance_338 rfl (lv_at hl 6 rfl) ?_
                  refine lv_iload_n hx hb dX0_chooseByChance_339 rfl (lv_at hl 3 rfl) ?_
                  refine lv_iload hx hb dX0_chooseByChance_340 (lv_at hl 0 rfl) ?_
                  obtain ⟨y312, hy312, hF⟩ := bnd_some hF
                  have hf9 := wA_in hD hA9 hS
                  refine va_callv (va_runV (As := [.int p0, .int x5, .int y311.1]) (rest := []) ⟨hx, hb, hml, hown, hts⟩ (kX0_drawByLists l D ct ad Z G y311.2 H.size a p0 x5 y311.1 y312 hc hk hy312) (cwV 3 hts gX0_chooseByChance_X0_drawByLists rfl rfl rfl (by decide +kernel) ⟨Nat.le_of_ble_eq_true rfl, Nat.le_of_ble_eq_true rfl⟩) ⟨fun a U g mk q => by obtain ⟨q0, q1, qP, qK, qD, qZ, qN⟩ := q; exact ⟨q0, q1, qP, va_K.moved (u := U) (U := U.calling g mk a) (Vm.Alike.refl U.vm) qK, qD, sF.moved (u := U) (U := U.calling g mk a) (Vm.Alike.refl U.vm) qZ, nF.same rfl qN⟩, va_recv hK hP (ci := 0) (q0 := a) rfl (wld_o ct ad G y311.2 hc hk (by decide)), fun U hU hW => ⟨rfl, by rw [hU], by rw [hU]; exact hP, va_K.moved hW.alike hK, hD.weaken (fun _ _ _ _ => trivial), by rw [hU]; exact ((hZ.kept hS.2.1).narrow hf9).moved hW.alike, hN.warm hW⟩⟩ rfl rfl hl.1 rfl (lv_room (Nat.le_of_ble_eq_true rfl)) dX0_chooseByChance_342 ⟨(Nat.zero_le _), (Nat.zero_le _)⟩) hS (fun q _ h => hf9 q h) hf9 (fun u t H locs ht hvm hw hB hz1 hk1 hS => ?_)
                  obtain ⟨hP, hK9, hD9⟩ := hB
                  rw [ht] at hP
                  have hD := hD9.weaken (fun _ q _ h => hf9 q.1 h)
                  obtain rfl := Option.some.inj hF
                  exact J305 _ _ _ hP hD hS (lv_sub hl [0, 1, 2, 3, 4, 5, 6] rfl)
                clear hF
                have hF := hy311
                clear hy311
                refine lv_if_ne (tgt := 302) hx hb dX0_chooseByChance_250 (by decide) (fun c313 => ?_) (fun c313 => ?_)
                · rw [if_neg c313] at hF
                  refine lv_iload hx hb dX0_chooseByChance_302 (lv_at hl 1 rfl) ?_
                  refine lv_iconst (v := (5 : Int32)) hx hb dX0_chooseByChance_304 (by decide) ?_
                  obtain ⟨y314, hy314, hF⟩ := bnd_some hF
                  have J314 : ∀ (H : Heap) (locs : List Loc) (ls : Array Slot), va_P D classes (wld ct ad G y314.2) H → va_D A (wld ct ad G y314.2) → va_S A s.heap H locs → lv_has ls 7 [(5, .int y189.2), (4, .int (1 : Int32)), (3, .int x5), (2, .int x1), (0, .ref (ad a)), (1, .int p0)] → W p l e (headSpec wuX0_chooseByChance ({ frames := 6, cells := 0, slots := 0, locals := 162 })).room s m ([.ref (ad a), .int p0] : List Value).toArray below meth c H locs 0 0 (MQ below (va_Qv (fun (_ : Unit) => True) (fun _ t => kE D ct ad G A y t) A) ([.ref (ad a), .int p0] : List Value).toArray s 0 0 A) (F0 m 335 ls [.int y314.1]) := by
                    intro H locs ls hP hD hS hl
                    refine lv_istore (lv' := [(6, .int y314.1), (5, .int y189.2), (4, .int (1 : Int32)), (3, .int x5), (2, .int x1), (0, .ref (ad a)), (1, .int p0)]) hx hb dX0_chooseByChance_335 hl (by decide) rfl (fun ls hl => ?_)
                    obtain rfl := Option.some.inj hF
                    exact J311 _ _ _ hP hD hS (lv_sub hl [0, 1, 2, 3, 4, 5, 6] rfl)
                  clear hF
                  have hF := hy314
                  clear hy314
                  refine lv_icmp_ge (tgt := 315) hx hb dX0_chooseByChance_305 (by decide) (fun c315 => ?_) (fun c315 => ?_)
                  · rw [if_pos c315] at hF
                    refine lv_iload hx hb dX0_chooseByChance_315 (lv_at hl 1 rfl) ?_
                    refine lv_bipush (v := (12 : Int32)) hx hb dX0_chooseByChance_317 (by decide) ?_
                    obtain ⟨y316, hy316, hF⟩ := bnd_some hF
                    have J316 : ∀ (H : Heap) (locs : List Loc) (ls : Array Slot), va_P D classes (wld ct ad G y316.2) H → va_D A (wld ct ad G y316.2) → va_S A s.heap H locs → lv_has ls 7 [(5, .int y189.2), (4, .int (1 : Int32)), (3, .int x5), (2, .int x1), (0, .ref (ad a)), (1, .int p0)] → W p l e (headSpec wuX0_chooseByChance ({ frames := 6, cells := 0, slots := 0, locals := 162 })).room s m ([.ref (ad a), .int p0] : List Value).toArray below meth c H locs 0 0 (MQ below (va_Qv (fun (_ : Unit) => True) (fun _ t => kE D ct ad G A y t) A) ([.ref (ad a), .int p0] : List Value).toArray s 0 0 A) (F0 m 335 ls [.int y316.1]) := by
                      intro H locs ls hP hD hS hl
                      obtain rfl := Option.some.inj hF
                      exact J314 _ _ _ hP hD hS (lv_sub hl [0, 1, 2, 3, 4, 5] rfl)
                    clear hF
                    have hF := hy316
                    clear hy316
                    refine lv_icmp_ge (tgt := 333) hx hb dX0_chooseByChance_319 (by decide) (fun c317 => ?_) (fun c317 => ?_)
                    · rw [if_pos c317] at hF
                      refine lv_bipush (v := (22 : Int32)) hx hb dX0_chooseByChance_333 (by decide) ?_
                      obtain rfl := Option.some.inj hF
                      exact J316 _ _ _ hP hD hS (lv_sub hl [0, 1, 2, 3, 4, 5] rfl)
                    · rw [if_neg c317] at hF
                      refine lv_iconst (v := (1 : Int32)) hx hb dX0_chooseByChance_322 (by decide) ?_
                      refine lv_aload_n hx hb dX0_chooseByChance_323 rfl (lv_at hl 4 rfl) ?_
                      refine lv_bipush (v := (21 : Int32)) hx hb dX0_chooseByChance_324 (by decide) ?_
                      obtain ⟨y318, hy318, hF⟩ := bnd_some hF
                      have hf9 := wA_in hD hA9 hS
                      refine va_calli (va_runV (As := [.int (21 : Int32)]) (rest := [.int (1 : Int32)]) ⟨hx, hb, hml, hown, hts⟩ (kX0_draw l D ct ad Z G M310 H.size a ((21 : Int32)) y318 hc hk hy318) (cwV 1 hts gX0_chooseByChance_X0_draw rfl rfl rfl (by decide +kernel) ⟨Nat.le_of_ble_eq_true rfl, Nat.le_of_ble_eq_true rfl⟩) ⟨fun a U g mk q => by obtain ⟨q0, q1, qP, qK, qD, qZ, qN⟩ := q; exact ⟨q0, q1, qP, va_K.moved (u := U) (U := U.calling g mk a) (Vm.Alike.refl U.vm) qK, qD, sF.moved (u := U) (U := U.calling g mk a) (Vm.Alike.refl U.vm) qZ, nF.same rfl qN⟩, va_recv hK hP (ci := 0) (q0 := a) rfl (wld_o ct ad G M310 hc hk (by decide)), fun U hU hW => ⟨rfl, by rw [hU], by rw [hU]; exact hP, va_K.moved hW.alike hK, hD.weaken (fun _ _ _ _ => trivial), by rw [hU]; exact ((hZ.kept hS.2.1).narrow hf9).moved hW.alike, hN.warm hW⟩⟩ rfl rfl hl.1 rfl (lv_room (Nat.le_of_ble_eq_true rfl)) dX0_chooseByChance_326 ⟨(Nat.zero_le _), (Nat.zero_le _)⟩) hS (fun q _ h => hf9 q h) hf9 (fun r u t H locs ht hvm hw hB hz1 hk1 hS => ?_)
                      obtain ⟨hP, hK9, hD9⟩ := hB
                      rw [ht] at hP
                      try dsimp only at hw
                      subst hw
                      have hD := hD9.weaken (fun _ q _ h => hf9 q.1 h)
                      refine lv_iadd hx hb dX0_chooseByChance_329 ?_
                      obtain ⟨x319, ex319, hF⟩ := ltt_some hF
                      refine lv_topi (fun zx319 ezx319 => ?_)
                      obtain rfl : x319 = zx319 := ex319.trans ezx319.symm
                      refine lv_goto (tgt := 335) hx hb dX0_chooseByChance_330 (by decide) ?_
                      obtain rfl := Option.some.inj hF
                      exact J316 _ _ _ hP hD hS (lv_sub hl [0, 1, 2, 3, 4, 5] rfl)
                  · rw [if_neg c315] at hF
                    refine lv_iload hx hb dX0_chooseByChance_308 (lv_at hl 1 rfl) ?_
                    refine lv_iconst (v := (4 : Int32)) hx hb dX0_chooseByChance_310 (by decide) ?_
                    refine lv_isub hx hb dX0_chooseByChance_311 ?_
                    obtain ⟨x320, ex320, hF⟩ := ltt_some hF
                    refine lv_topi (fun zx320 ezx320 => ?_)
                    obtain rfl : x320 = zx320 := ex320.trans ezx320.symm
                    refine lv_goto (tgt := 335) hx hb dX0_chooseByChance_312 (by decide) ?_
                    obtain rfl := Option.some.inj hF
                    exact J314 _ _ _ hP hD hS (lv_sub hl [0, 1, 2, 3, 4, 5] rfl)
                · rw [if_pos c313] at hF
                  refine lv_iload hx hb dX0_chooseByChance_253 (lv_at hl 1 rfl) ?_
                  refine lv_iconst (v := (3 : Int32)) hx hb dX0_chooseByChance_255 (by decide) ?_
                  obtain ⟨y321, hy321, hF⟩ := bnd_some hF
                  have J321 : ∀ (H : Heap) (locs : List Loc) (ls : Array Slot), va_P D classes (wld ct ad G M310) H → va_D A (wld ct ad G M310) → va_S A s.heap H locs → lv_has ls 7 [(5, .int y189.2), (4, .int (1 : Int32)), (3, .int x5), (2, .int x1), (0, .ref (ad a)), (1, .int p0)] → W p l e (headSpec wuX0_chooseByChance ({ frames := 6, cells := 0, slots := 0, locals := 162 })).room s m ([.ref (ad a), .int p0] : List Value).toArray below meth c H locs 0 0 (MQ below (va_Qv (fun (_ : Unit) => True) (fun _ t => kE D ct ad G A y t) A) ([.ref (ad a), .int p0] : List Value).toArray s 0 0 A) (F0 m 297 ls [.int y321]) := by
                    intro H locs ls hP hD hS hl
                    refine lv_istore (lv' := [(6, .int y321), (5, .int y189.2), (4, .int (1 : Int32)), (3, .int x5), (2, .int x1), (0, .ref (ad a)), (1, .int p0)]) hx hb dX0_chooseByChance_297 hl (by decide) rfl (fun ls hl => ?_)
                    refine lv_goto (tgt := 337) hx hb dX0_chooseByChance_299 (by decide) ?_
                    obtain rfl := Option.some.inj hF
                    exact J311 _ _ _ hP hD hS (lv_sub hl [0, 1, 2, 3, 4, 5, 6] rfl)
                  clear hF
                  have hF := hy321
                  clear hy321
                  refine lv_icmp_ne (tgt := 263) hx hb dX0_chooseByChance_256 (by decide) (fun c322 => ?_) (fun c322 => ?_)
                  · rw [if_neg c322] at hF
                    refine lv_iload hx hb dX0_chooseByChance_263 (lv_at hl 1 rfl) ?_
                    refine lv_bipush (v := (7 : Int32)) hx hb dX0_chooseByChance_265 (by decide) ?_
                    obtain ⟨y323, hy323, hF⟩ := bnd_some hF
                    have J323 : ∀ (H : Heap) (locs : List Loc) (ls : Array Slot), va_P D classes (wld ct ad G M310) H → va_D A (wld ct ad G M310) → va_S A s.heap H locs → lv_has ls 7 [(5, .int y189.2), (4, .int (1 : Int32)), (3, .int x5), (2, .int x1), (0, .ref (ad a)), (1, .int p0)] → W p l e (headSpec wuX0_chooseByChance ({ frames := 6, cells := 0, slots := 0, locals := 162 })).room s m ([.ref (ad a), .int p0] : List Value).toArray below meth c H locs 0 0 (MQ below (va_Qv (fun (_ : Unit) => True) (fun _ t => kE D ct ad G A y t) A) ([.ref (ad a), .int p0] : List Value).toArray s 0 0 A) (F0 m 297 ls [.int y323]) := by
                      intro H locs ls hP hD hS hl
                      obtain rfl := Option.some.inj hF
                      exact J321 _ _ _ hP hD hS (lv_sub hl [0, 1, 2, 3, 4, 5] rfl)
                    clear hF
                    have hF := hy323
                    clear hy323
                    refine lv_icmp_ge (tgt := 274) hx hb dX0_chooseByChance_267 (by decide) (fun c324 => ?_) (fun c324 => ?_)
                    · rw [if_pos c324] at hF
                      refine lv_iload hx hb dX0_chooseByChance_274 (lv_at hl 1 rfl) ?_
                      refine lv_bipush (v := (9 : Int32)) hx hb dX0_chooseByChance_276 (by decide) ?_
                      obtain ⟨y325, hy325, hF⟩ := bnd_some hF
                      have J325 : ∀ (H : Heap) (locs : List Loc) (ls : Array Slot), va_P D classes (wld ct ad G M310) H → va_D A (wld ct ad G M310) → va_S A s.heap H locs → lv_has ls 7 [(5, .int y189.2), (4, .int (1 : Int32)), (3, .int x5), (2, .int x1), (0, .ref (ad a)), (1, .int p0)] → W p l e (headSpec wuX0_chooseByChance ({ frames := 6, cells := 0, slots := 0, locals := 162 })).room s m ([.ref (ad a), .int p0] : List Value).toArray below meth c H locs 0 0 (MQ below (va_Qv (fun (_ : Unit) => True) (fun _ t => kE D ct ad G A y t) A) ([.ref (ad a), .int p0] : List Value).toArray s 0 0 A) (F0 m 297 ls [.int y325]) := by
                        intro H locs ls hP hD hS hl
                        obtain rfl := Option.some.inj hF
                        exact J323 _ _ _ hP hD hS (lv_sub hl [0, 1, 2, 3, 4, 5] rfl)
                      clear hF
                      have hF := hy325
                      clear hy325
                      refine lv_icmp_ge (tgt := 285) hx hb dX0_chooseByChance_278 (by decide) (fun c326 => ?_) (fun c326 => ?_)
                      · rw [if_pos c326] at hF
                        refine lv_iload hx hb dX0_chooseByChance_285 (lv_at hl 1 rfl) ?_
                        refine lv_bipush (v := (11 : Int32)) hx hb dX0_chooseByChance_287 (by decide) ?_
                        obtain ⟨y327, hy327, hF⟩ := bnd_some hF
                        have J327 : ∀ (H : Heap) (locs : List Loc) (ls : Array Slot), va_P D classes (wld ct ad G M310) H → va_D A (wld ct ad G M310) → va_S A s.heap H locs → lv_has ls 7 [(5, .int y189.2), (4, .int (1 : Int32)), (3, .int x5), (2, .int x1), (0, .ref (ad a)), (1, .int p0)] → W p l e (headSpec wuX0_chooseByChance ({ frames := 6, cells := 0, slots := 0, locals := 162 })).room s m ([.ref (ad a), .int p0] : List Value).toArray below meth c H locs 0 0 (MQ below (va_Qv (fun (_ : Unit) => True) (fun _ t => kE D ct ad G A y t) A) ([.ref (ad a), .int p0] : List Value).toArray s 0 0 A) (F0 m 297 ls [.int y327]) := by
                          intro H locs ls hP hD hS hl
                          obtain rfl := Option.some.inj hF
                          exact J325 _ _ _ hP hD hS (lv_sub hl [0, 1, 2, 3, 4, 5] rfl)
                        clear hF
                        have hF := hy327
                        clear hy327
                        refine lv_icmp_ge (tgt := 296) hx hb dX0_chooseByChance_289 (by decide) (fun c328 => ?_) (fun c328 => ?_)
                        · rw [if_pos c328] at hF
                          refine lv_iconst (v := (3 : Int32)) hx hb dX0_chooseByChance_296 (by decide) ?_
                          obtain rfl := Option.some.inj hF
                          exact J327 _ _ _ hP hD hS (lv_sub hl [0, 1, 2, 3, 4, 5] rfl)
                        · rw [if_neg c328] at hF
                          refine lv_iconst (v := (2 : Int32)) hx hb dX0_chooseByChance_292 (by decide) ?_
                          refine lv_goto (tgt := 297) hx hb dX0_chooseByChance_293 (by decide) ?_
                          obtain rfl := Option.some.inj hF
                          exact J327 _ _ _ hP hD hS (lv_sub hl [0, 1, 2, 3, 4, 5] rfl)
                      · rw [if_neg c326] at hF
                        refine lv_iconst (v := (1 : Int32)) hx hb dX0_chooseByChance_281 (by decide) ?_
                        refine lv_goto (tgt := 297) hx hb dX0_chooseByChance_282 (by decide) ?_
                        obtain rfl := Option.some.inj hF
                        exact J325 _ _ _ hP hD hS (lv_sub hl [0, 1, 2, 3, 4, 5] rfl)
                    · rw [if_neg c324] at hF
                      refine lv_iconst (v := (0 : Int32)) hx hb dX0_chooseByChance_270 (by decide) ?_
                      refine lv_goto (tgt := 297) hx hb dX0_chooseByChance_271 (by decide) ?_
                      obtain rfl := Option.some.inj hF
                      exact J323 _ _ _ hP hD hS (lv_sub hl [0, 1, 2, 3, 4, 5] rfl)
                  · rw [if_pos c322] at hF
                    refine lv_iconst (v := (-1 : Int32)) hx hb dX0_chooseByChance_259 (by decide) ?_
                    refine lv_goto (tgt := 297) hx hb dX0_chooseByChance_260 (by decide) ?_
                    obtain rfl := Option.some.inj hF
                    exact J321 _ _ _ hP hD hS (lv_sub hl [0, 1, 2, 3, 4, 5] rfl)
              · rw [if_pos c306] at hF
                refine lv_aload_n hx hb dX0_chooseByChance_158 rfl (lv_at hl 4 rfl) ?_
                refine va_get (D := D) (ci := 0) (v := va_re ad (y189.1.2 a 3)) (C := RX0) (T := TX0) (N := 21) hx hb hts (mus hf_X0) hown hK hP a (wld_o ct ad G y189.1 hc hk (by decide)) rfl 3 (by decide) (hts (.fieldLink RX0 36 "VideoSuite$Coder" "work" "LVideoSuite$Work;") (mu mw_817)) (fun _ h9 => h9) rfl dX0_chooseByChance_159 ?_
                obtain ⟨b329, ho329, hc329, hk329, hF⟩ := dr_some hF
                refine W_st (st' := [.ref (ad b329)]) (by rw [va_some ho329]) ?_
                refine va_get (D := D) (ci := 9) (v := va_re ad (y189.1.2 b329 6)) (C := RX9) (T := TX9) (N := 20) hx hb hts (mus hf_X9) hown hK hP b329 (wld_o ct ad G y189.1 hc329 hk329 (by decide)) rfl 6 (by decide) (hts (.fieldLink RX0 216 "VideoSuite$Work" "info" "[I") (mu mw_445)) (fun _ h9 => h9) rfl dX0_chooseByChance_162 ?_
                refine lv_iload_n hx hb dX0_chooseByChance_165 rfl (lv_at hl 3 rfl) ?_
                refine lv_iconst (v := (0 : Int32)) hx hb dX0_chooseByChance_166 (by decide) ?_
                refine lv_iadd hx hb dX0_chooseByChance_167 ?_
                obtain ⟨x330, ex330, hF⟩ := ltt_some hF
                refine lv_topi (fun zx330 ezx330 => ?_)
                obtain rfl : x330 = zx330 := ex330.trans ezx330.symm
                refine lv_iconst (v := (0 : Int32)) hx hb dX0_chooseByChance_168 (by decide) ?_
                obtain ⟨b331, ho331, hc331, hk331, hF⟩ := dr_some hF
                refine W_st (st' := [.int (0 : Int32), .int x330, .ref (ad b331)]) (by rw [va_some ho331]) ?_
                obtain ⟨hvc, hF⟩ := chk_some hF
                refine va_iast hx hb hK hP hD hS b331 1 (wld_i ct ad G y189.1 hc331 hk331) rfl hvc dX0_chooseByChance_169 (fun H locs hP hD hS => ?_)
                obtain ⟨M332, eM332, hF⟩ := ltt_some hF
                rw [set_i ct ad G y189.1 hc331 hk331, ← eM332] at hP hD
                refine lv_iconst (v := (0 : Int32)) hx hb dX0_chooseByChance_170 (by decide) ?_
                refine lv_istore (lv' := [(6, .int (0 : Int32)), (5, .int y189.2), (4, .int (1 : Int32)), (3, .int x5), (2, .int x1), (0, .ref (ad a)), (1, .int p0)]) hx hb dX0_chooseByChance_171 hl (by decide) rfl (fun ls hl => ?_)
                obtain ⟨y333, hy333, hF⟩ := bnd_some hF
                have K333 : ∀ (H : Heap) (locs : List Loc) (ls : Array Slot), va_P D classes (wld ct ad G y333.2) H → va_D A (wld ct ad G y333.2) → va_S A s.heap H locs → lv_has ls 7 [(6, .int y333.1), (5, .int y189.2), (4, .int (1 : Int32)), (3, .int x5), (2, .int x1), (0, .ref (ad a)), (1, .int p0)] → W p l e (headSpec wuX0_chooseByChance ({ frames := 6, cells := 0, slots := 0, locals := 162 })).room s m ([.ref (ad a), .int p0] : List Value).toArray below meth c H locs 0 0 (MQ below (va_Qv (fun (_ : Unit) => True) (fun _ t => kE D ct ad G A y t) A) ([.ref (ad a), .int p0] : List Value).toArray s 0 0 A) (F0 m 215 ls []) := by
                  intro H locs ls hP hD hS hl
                  refine lv_aload_n hx hb dX0_chooseByChance_215 rfl (lv_at hl 5 rfl) ?_
                  refine va_get (D := D) (ci := 0) (v := va_re ad (y333.2.2 a 3)) (C := RX0) (T := TX0) (N := 21) hx hb hts (mus hf_X0) hown hK hP a (wld_o ct ad G y333.2 hc hk (by decide)) rfl 3 (by decide) (hts (.fieldLink RX0 36 "VideoSuite$Coder" "work" "LVideoSuite$Work;") (mu mw_817)) (fun _ h9 => h9) rfl dX0_chooseByChance_216 ?_
                  obtain ⟨b336, ho336, hc336, hk336, hF⟩ := dr_some hF
                  refine W_st (st' := [.ref (ad b336)]) (by rw [va_some ho336]) ?_
                  refine va_get (D := D) (ci := 9) (v := va_re ad (y333.2.2 b336 6)) (C := RX9) (T := TX9) (N := 20) hx hb hts (mus hf_X9) hown hK hP b336 (wld_o ct ad G y333.2 hc336 hk336 (by decide)) rfl 6 (by decide) (hts (.fieldLink RX0 216 "VideoSuite$Work" "info" "[I") (mu mw_445)) (fun _ h9 => h9) rfl dX0_chooseByChance_219 ?_
                  refine lv_iload_n hx hb dX0_chooseByChance_222 rfl (lv_at hl 4 rfl) ?_
                  refine lv_iconst (v := (5 : Int32)) hx hb dX0_chooseByChance_223 (by decide) ?_
                  refine lv_iadd hx hb dX0_chooseByChance_224 ?_
                  obtain ⟨x337, ex337, hF⟩ := ltt_some hF
                  refine lv_topi (fun zx337 ezx337 => ?_)
                  obtain rfl : x337 = zx337 := ex337.trans ezx337.symm
                  refine lv_aload_n hx hb dX0_chooseByChance_225 rfl (lv_at hl 5 rfl) ?_
                  refine lv_iconst (v := (-1 : Int32)) hx hb dX0_chooseByChance_226 (by decide) ?_
                  refine lv_iconst (v := (4 : Int32)) hx hb dX0_chooseByChance_227 (by decide) ?_
                  refine lv_iload hx hb dX0_chooseByChance_228 (lv_at hl 1 rfl) ?_
                  obtain ⟨y338, hy338, hF⟩ := bnd_some hF
                  have hf9 := wA_in hD hA9 hS
                  refine va_calli (va_runV (As := [.int (-1 : Int32), .int (4 : Int32), .int y189.2]) (rest := [.int x337, va_re ad (y333.2.2 b336 6)]) ⟨hx, hb, hml, hown, hts⟩ (kX0_drawMode l D ct ad Z G y333.2 H.size a ((-1 : Int32)) ((4 : Int32)) y189.2 y338 hc hk hy338) (cwV 3 hts gX0_chooseByChance_X0_drawMode rfl rfl rfl (by decide +kernel) ⟨Nat.le_of_ble_eq_true rfl, Nat.le_of_ble_eq_true rfl⟩) ⟨fun a U g mk q => by obtain ⟨q0, q1, qP, qK, qD, qZ, qN⟩ := q; exact ⟨q0, q1, qP, va_K.moved (u := U) (U := U.calling g mk a) (Vm.Alike.refl U.vm) qK, qD, sF.moved (u := U) (U := U.calling g mk a) (Vm.Alike.refl U.vm) qZ, nF.same rfl qN⟩, va_recv hK hP (ci := 0) (q0 := a) rfl (wld_o ct ad G y333.2 hc hk (by decide)), fun U hU hW => ⟨rfl, by rw [hU], by rw [hU]; exact hP, va_K.moved hW.alike hK, hD.weaken (fun _ _ _ _ => trivial), by rw [hU]; exact ((hZ.kept hS.2.1).narrow hf9).moved hW.alike, hN.warm hW⟩⟩ rfl rfl hl.1 rfl (lv_room (by simp only [List.map, va_re_cat]; exact Nat.le_of_ble_eq_true rfl)) dX0_chooseByChance_230 ⟨(Nat.zero_le _), (Nat.zero_le _)⟩) hS (fun q _ h => hf9 q h) hf9 (fun r u t H locs ht hvm hw hB hz1 hk1 hS => ?_)
                  obtain ⟨hP, hK9, hD9⟩ := hB
                  rw [ht] at hP
                  try dsimp only at hw
                  subst hw
                  have hD := hD9.weaken (fun _ q _ h => hf9 q.1 h)
                  obtain ⟨b339, ho339, hc339, hk339, hF⟩ := dr_some hF
                  refine W_st (st' := [.int y338.2, .int x337, .ref (ad b339)]) (by rw [va_some ho339]) ?_
                  obtain ⟨hvc, hF⟩ := chk_some hF
                  refine va_iast hx hb hK hP hD hS b339 1 (wld_i ct ad G y338.1 hc339 hk339) rfl hvc dX0_chooseByChance_233 (fun H locs hP hD hS => ?_)
                  obtain ⟨M340, eM340, hF⟩ := ltt_some hF
                  rw [set_i ct ad G y338.1 hc339 hk339, ← eM340] at hP hD
                  refine lv_goto (tgt := 345) hx hb dX0_chooseByChance_234 (by decide) ?_
                  obtain rfl := Option.some.inj hF
                  exact J305 _ _ _ hP hD hS (lv_sub hl [0, 1, 2, 3, 4, 5, 6] rfl)
                clear hF
                refine itr_rule (fun (s334 : Int32 × DD) => ∀ (H : Heap) (locs : List Loc) (ls : Array Slot), va_P D classes (wld ct ad G s334.2) H → va_D A (wld ct ad G s334.2) → va_S A s.heap H locs → lv_has ls 7 [(6, .int s334.1), (5, .int y189.2), (4, .int (1 : Int32)), (3, .int x5), (2, .int x1), (0, .ref (ad a)), (1, .int p0)] → W p l e (headSpec wuX0_chooseByChance ({ frames := 6, cells := 0, slots := 0, locals := 162 })).room s m ([.ref (ad a), .int p0] : List Value).toArray below meth c H locs 0 0 (MQ below (va_Qv (fun (_ : Unit) => True) (fun _ t => kE D ct ad G A y t) A) ([.ref (ad a), .int p0] : List Value).toArray s 0 0 A) (F0 m 173 ls [])) ?_ _ _ hy333 _ _ _ hP hD hS (lv_sub hl [0, 1, 2, 3, 4, 5, 6] rfl)
                rintro s334 ⟨z341, hF, hwz341⟩ H locs ls hP hD hS hl
                try dsimp only at hF
                refine lv_iload hx hb dX0_chooseByChance_173 (lv_at hl 0 rfl) ?_
                refine lv_bipush (v := (16 : Int32)) hx hb dX0_chooseByChance_175 (by decide) ?_
                refine lv_icmp_ge (tgt := 215) hx hb dX0_chooseByChance_177 (by decide) (fun c342 => ?_) (fun c342 => ?_)
                · rw [if_pos c342] at hF
                  obtain rfl := Option.some.inj hF
                  subst hwz341
                  exact K333 _ _ _ hP hD hS (lv_sub hl [0, 1, 2, 3, 4, 5, 6] rfl)
                · rw [if_neg c342] at hF
                  refine lv_aload_n hx hb dX0_chooseByChance_180 rfl (lv_at hl 5 rfl) ?_
                  refine va_get (D := D) (ci := 0) (v := va_re ad (s334.2.2 a 3)) (C := RX0) (T := TX0) (N := 21) hx hb hts (mus hf_X0) hown hK hP a (wld_o ct ad G s334.2 hc hk (by decide)) rfl 3 (by decide) (hts (.fieldLink RX0 36 "VideoSuite$Coder" "work" "LVideoSuite$Work;") (mu mw_817)) (fun _ h9 => h9) rfl dX0_chooseByChance_181 ?_
                  obtain ⟨b343, ho343, hc343, hk343, hF⟩ := dr_some hF
                  refine W_st (st' := [.ref (ad b343)]) (by rw [va_some ho343]) ?_
                  refine va_get (D := D) (ci := 9) (v := va_re ad (s334.2.2 b343 7)) (C := RX9) (T := TX9) (N := 20) hx hb hts (mus hf_X9) hown hK hP b343 (wld_o ct ad G s334.2 hc343 hk343 (by decide)) rfl 7 (by decide) (hts (.fieldLink RX0 356 "VideoSuite$Work" "mode" "[I") (mu mw_448)) (fun _ h9 => h9) rfl dX0_chooseByChance_184 ?_
                  refine lv_bipush (v := (16 : Int32)) hx hb dX0_chooseByChance_187 (by decide) ?_
                  refine lv_iload_n hx hb dX0_chooseByChance_189 rfl (lv_at hl 6 rfl) ?_
                  refine lv_imul hx hb dX0_chooseByChance_190 ?_
                  obtain ⟨x344, ex344, hF⟩ := ltt_some hF
                  refine lv_topi (fun zx344 ezx344 => ?_)
                  obtain rfl : x344 = zx344 := ex344.trans ezx344.symm
                  refine lv_iload hx hb dX0_chooseByChance_191 (lv_at hl 0 rfl) ?_
                  refine lv_iadd hx hb dX0_chooseByChance_193 ?_
                  obtain ⟨x345, ex345, hF⟩ := ltt_some hF
                  refine lv_topi (fun zx345 ezx345 => ?_)
                  obtain rfl : x345 = zx345 := ex345.trans ezx345.symm
                  refine lv_aload_n hx hb dX0_chooseByChance_194 rfl (lv_at hl 5 rfl) ?_
                  refine lv_iconst (v := (0 : Int32)) hx hb dX0_chooseByChance_195 (by decide) ?_
                  refine lv_bipush (v := (9 : Int32)) hx hb dX0_chooseByChance_196 (by decide) ?_
                  refine lv_iload hx hb dX0_chooseByChance_198 (lv_at hl 0 rfl) ?_
                  refine lv_iload hx hb dX0_chooseByChance_200 (lv_at hl 1 rfl) ?_
                  obtain ⟨y346, hy346, hF⟩ := bnd_some hF
                  have hf9 := wA_in hD hA9 hS
                  refine va_calli (va_runS (As := [.int s334.1, .int y189.2]) (rest := [.int (9 : Int32), .int (0 : Int32), .ref (ad a), .int x345, va_re ad (s334.2.2 b343 7)]) ⟨hx, hb, hml, hown, hts⟩ (kX9_sidesOf l D ct ad Z G s334.2 H.size s334.1 y189.2 y346 hy346) (va_cwS 2 hts gX0_chooseByChance_X9_sidesOf rfl rfl rfl (by decide +kernel) ⟨Nat.le_of_ble_eq_true rfl, Nat.le_of_ble_eq_true rfl⟩) ⟨fun a U g mk q => by obtain ⟨q0, q1, qP, qK, qD, qZ, qN⟩ := q; exact ⟨q0, q1, qP, va_K.moved (u := U) (U := U.calling g mk a) (Vm.Alike.refl U.vm) qK, qD, sF.moved (u := U) (U := U.calling g mk a) (Vm.Alike.refl U.vm) qZ, nF.same rfl qN⟩, fun U hU hW => ⟨rfl, by rw [hU], by rw [hU]; exact hP, va_K.moved hW.alike hK, hD.weaken (fun _ _ _ _ => trivial), by rw [hU]; exact ((hZ.kept hS.2.1).narrow hf9).moved hW.alike, hN.warm hW⟩⟩ rfl rfl hl.1 rfl (lv_room (by simp only [List.map, va_re_cat]; exact Nat.le_of_ble_eq_true rfl)) dX0_chooseByChance_202 ⟨(Nat.zero_le _), (Nat.zero_le _)⟩) hS (fun q _ h => hf9 q h) hf9 (fun r u t H locs ht hvm hw hB hz1 hk1 hS => ?_)
                  obtain ⟨hP, hK9, hD9⟩ := hB
                  rw [ht] at hP
                  try dsimp only at hw
                  subst hw
                  have hD := hD9.weaken (fun _ q _ h => hf9 q.1 h)
                  obtain ⟨y347, hy347, hF⟩ := bnd_some hF
                  have hf9 := wA_in hD hA9 hS
                  refine va_calli (va_runV (As := [.int (0 : Int32), .int (9 : Int32), .int y346.2]) (rest := [.int x345, va_re ad (s334.2.2 b343 7)]) ⟨hx, hb, hml, hown, hts⟩ (kX0_drawMode l D ct ad Z G y346.1 H.size a ((0 : Int32)) ((9 : Int32)) y346.2 y347 hc hk hy347) (cwV 3 hts gX0_chooseByChance_X0_drawMode rfl rfl rfl (by decide +kernel) ⟨Nat.le_of_ble_eq_true rfl, Nat.le_of_ble_eq_true rfl⟩) ⟨fun a U g mk q => by obtain ⟨q0, q1, qP, qK, qD, qZ, qN⟩ := q; exact ⟨q0, q1, qP, va_K.moved (u := U) (U := U.calling g mk a) (Vm.Alike.refl U.vm) qK, qD, sF.moved (u := U) (U := U.calling g mk a) (Vm.Alike.refl U.vm) qZ, nF.same rfl qN⟩, va_recv hK hP (ci := 0) (q0 := a) rfl (wld_o ct ad G y346.1 hc hk (by decide)), fun U hU hW => ⟨rfl, by rw [hU], by rw [hU]; exact hP, va_K.moved hW.alike hK, hD.weaken (fun _ _ _ _ => trivial), by rw [hU]; exact ((hZ.kept hS.2.1).narrow hf9).moved hW.alike, hN.warm hW⟩⟩ rfl rfl hl.1 rfl (lv_room (by simp only [List.map, va_re_cat]; exact Nat.le_of_ble_eq_true rfl)) dX0_chooseByChance_205 ⟨(Nat.zero_le _), (Nat.zero_le _)⟩) hS (fun q _ h => hf9 q h) hf9 (fun r u t H locs ht hvm hw hB hz1 hk1 hS => ?_)
                  obtain ⟨hP, hK9, hD9⟩ := hB
                  rw [ht] at hP
                  try dsimp only at hw
                  subst hw
                  have hD := hD9.weaken (fun _ q _ h => hf9 q.1 h)
                  obtain ⟨b348, ho348, hc348, hk348, hF⟩ := dr_some hF
                  refine W_st (st' := [.int y347.2, .int x345, .ref (ad b348)]) (by rw [va_some ho348]) ?_
                  obtain ⟨hvc, hF⟩ := chk_some hF
                  refine va_iast hx hb hK hP hD hS b348 1 (wld_i ct ad G y347.1 hc348 hk348) rfl hvc dX0_chooseByChance_208 (fun H locs hP hD hS => ?_)
                  obtain ⟨M349, eM349, hF⟩ := ltt_some hF
                  rw [set_i ct ad G y347.1 hc348 hk348, ← eM349] at hP hD
                  obtain ⟨x350, ex350, hF⟩ := ltt_some hF
                  refine lv_iinc (v := x350) (lv' := [(6, .int x350), (5, .int y189.2), (4, .int (1 : Int32)), (3, .int x5), (2, .int x1), (0, .ref (ad a)), (1, .int p0)]) hx hb dX0_chooseByChance_209 hl (k := 0) rfl (by rw [ex350]; rfl) (by decide) rfl (fun ls hl => ?_)
                  refine lv_goto (tgt := 173) hx hb dX0_chooseByChance_212 (by decide) ?_
                  obtain rfl := Option.some.inj hF
                  exact hwz341 _ _ _ hP hD hS (lv_sub hl [0, 1, 2, 3, 4, 5, 6] rfl)
          · rw [if_neg c280] at hF
            refine lv_aload_n hx hb dX0_chooseByChance_84 rfl (lv_at hl 4 rfl) ?_
            refine va_get (D := D) (ci := 0) (v := va_re ad (y189.1.2 a 3)) (C := RX0) (T := TX0) (N := 21) hx hb hts (mus hf_X0) hown hK hP a (wld_o ct ad G y189.1 hc hk (by decide)) rfl 3 (by decide) (hts (.fieldLink RX0 36 "VideoSuite$Coder" "work" "LVideoSuite$Work;") (mu mw_817)) (fun _ h9 => h9) rfl dX0_chooseByChance_85 ?_
            obtain ⟨b351, ho351, hc351, hk351, hF⟩ := dr_some hF
            refine W_st (st' := [.ref (ad b351)]) (by rw [va_some ho351]) ?_
            refine va_get (D := D) (ci := 9) (v := va_re ad (y189.1.2 b351 6)) (C := RX9) (T := TX9) (N := 20) hx hb hts (mus hf_X9) hown hK hP b351 (wld_o ct ad G y189.1 hc351 hk351 (by decide)) rfl 6 (by decide) (hts (.fieldLink RX0 216 "VideoSuite$Work" "info" "[I") (mu mw_445)) (fun _ h9 => h9) rfl dX0_chooseByChance_88 ?_
            refine lv_iload_n hx hb dX0_chooseByChance_91 rfl (lv_at hl 3 rfl) ?_
            refine lv_iconst (v := (0 : Int32)) hx hb dX0_chooseByChance_92 (by decide) ?_
            refine lv_iadd hx hb dX0_chooseByChance_93 ?_
            obtain ⟨x352, ex352, hF⟩ := ltt_some hF
            refine lv_topi (fun zx352 ezx352 => ?_)
            obtain rfl : x352 = zx352 := ex352.trans ezx352.symm
            refine lv_iconst (v := (1 : Int32)) hx hb dX0_chooseByChance_94 (by decide) ?_
            obtain ⟨b353, ho353, hc353, hk353, hF⟩ := dr_some hF
            refine W_st (st' := [.int (1 : Int32), .int x352, .ref (ad b353)]) (by rw [va_some ho353]) ?_
            obtain ⟨hvc, hF⟩ := chk_some hF
            refine va_iast hx hb hK hP hD hS b353 1 (wld_i ct ad G y189.1 hc353 hk353) rfl hvc dX0_chooseByChance_95 (fun H locs hP hD hS => ?_)
            obtain ⟨M354, eM354, hF⟩ := ltt_some hF
            rw [set_i ct ad G y189.1 hc353 hk353, ← eM354] at hP hD
            refine lv_aload_n hx hb dX0_chooseByChance_96 rfl (lv_at hl 4 rfl) ?_
            refine va_get (D := D) (ci := 0) (v := va_re ad (M354.2 a 3)) (C := RX0) (T := TX0) (N := 21) hx hb hts (mus hf_X0) hown hK hP a (wld_o ct ad G M354 hc hk (by decide)) rfl 3 (by decide) (hts (.fieldLink RX0 36 "VideoSuite$Coder" "work" "LVideoSuite$Work;") (mu mw_817)) (fun _ h9 => h9) rfl dX0_chooseByChance_97 ?_
            obtain ⟨b355, ho355, hc355, hk355, hF⟩ := dr_some hF
            refine W_st (st' := [.ref (ad b355)]) (by rw [va_some ho355]) ?_
            refine va_get (D := D) (ci := 9) (v := va_re ad (M354.2 b355 7)) (C := RX9) (T := TX9) (N := 20) hx hb hts (mus hf_X9) hown hK hP b355 (wld_o ct ad G M354 hc355 hk355 (by decide)) rfl 7 (by decide) (hts (.fieldLink RX0 356 "VideoSuite$Work" "mode" "[I") (mu mw_448)) (fun _ h9 => h9) rfl dX0_chooseByChance_100 ?_
            refine lv_bipush (v := (16 : Int32)) hx hb dX0_chooseByChance_103 (by decide) ?_
            refine lv_iload_n hx hb dX0_chooseByChance_105 rfl (lv_at hl 5 rfl) ?_
            refine lv_imul hx hb dX0_chooseByChance_106 ?_
            obtain ⟨x356, ex356, hF⟩ := ltt_some hF
            refine lv_topi (fun zx356 ezx356 => ?_)
            obtain rfl : x356 = zx356 := ex356.trans ezx356.symm
            refine lv_bipush (v := (16 : Int32)) hx hb dX0_chooseByChance_107 (by decide) ?_
            refine lv_iload_n hx hb dX0_chooseByChance_109 rfl (lv_at hl 5 rfl) ?_
            refine lv_imul hx hb dX0_chooseByChance_110 ?_
            obtain ⟨x357, ex357, hF⟩ := ltt_some hF
            refine lv_topi (fun zx357 ezx357 => ?_)
            obtain rfl : x357 = zx357 := ex357.trans ezx357.symm
            refine lv_bipush (v := (16 : Int32)) hx hb dX0_chooseByChance_111 (by decide) ?_
            refine lv_iadd hx hb dX0_chooseByChance_113 ?_
            obtain ⟨x358, ex358, hF⟩ := ltt_some hF
            refine lv_topi (fun zx358 ezx358 => ?_)
            obtain rfl : x358 = zx358 := ex358.trans ezx358.symm
            refine lv_aload_n hx hb dX0_chooseByChance_114 rfl (lv_at hl 4 rfl) ?_
            refine lv_iconst (v := (1 : Int32)) hx hb dX0_chooseByChance_115 (by decide) ?_
            refine lv_iconst (v := (4 : Int32)) hx hb dX0_chooseByChance_116 (by decide) ?_
            refine lv_iload hx hb dX0_chooseByChance_117 (lv_at hl 0 rfl) ?_
            obtain ⟨y359, hy359, hF⟩ := bnd_some hF
            have hf9 := wA_in hD hA9 hS
            refine va_calli (va_runV (As := [.int (1 : Int32), .int (4 : Int32), .int y189.2]) (rest := [.int x358, .int x356, va_re ad (M354.2 b355 7)]) ⟨hx, hb, hml, hown, hts⟩ (kX0_drawMode l D ct ad Z G M354 H.size a ((1 : Int32)) ((4 : Int32)) y189.2 y359 hc hk hy359) (cwV 3 hts gX0_chooseByChance_X0_drawMode rfl rfl rfl (by decide +kernel) ⟨Nat.le_of_ble_eq_true rfl, Nat.le_of_ble_eq_true rfl⟩) ⟨fun a U g mk q => by obtain ⟨q0, q1, qP, qK, qD, qZ, qN⟩ := q; exact ⟨q0, q1, qP, va_K.moved (u := U) (U := U.calling g mk a) (Vm.Alike.refl U.vm) qK, qD, sF.moved (u := U) (U := U.calling g mk a) (Vm.Alike.refl U.vm) qZ, nF.same rfl qN⟩, va_recv hK hP (ci := 0) (q0 := a) rfl (wld_o ct ad G M354 hc hk (by decide)), fun U hU hW => ⟨rfl, by rw [hU], by rw [hU]; exact hP, va_K.moved hW.alike hK, hD.weaken (fun _ _ _ _ => trivial), by rw [hU]; exact ((hZ.kept hS.2.1).narrow hf9).moved hW.alike, hN.warm hW⟩⟩ rfl rfl hl.1 rfl (lv_room (by simp only [List.map, va_re_cat]; exact Nat.le_of_ble_eq_true rfl)) dX0_chooseByChance_119 ⟨(Nat.zero_le _), (Nat.zero_le _)⟩) hS (fun q _ h => hf9 q h) hf9 (fun r u t H locs ht hvm hw hB hz1 hk1 hS => ?_)
            obtain ⟨hP, hK9, hD9⟩ := hB
            rw [ht] at hP
            try dsimp only at hw
            subst hw
            have hD := hD9.weaken (fun _ q _ h => hf9 q.1 h)
            obtain ⟨y360, hy360, hF⟩ := bnd_some hF
            have hf9 := wA_in hD hA9 hS
            refine va_callv (va_runS (As := [va_re ad (M354.2 b355 7), .int x356, .int x358, .int y359.2]) (rest := []) ⟨hx, hb, hml, hown, hts⟩ (kJ7_fill_fda19 l D ct ad Z G y359.1 H.size ((M354.2 b355 7)) x356 x358 y359.2 y360 hy360) (va_cwS 4 hts gX0_chooseByChance_J7_fill_fda19 rfl rfl rfl (by decide +kernel) ⟨Nat.le_of_ble_eq_true rfl, Nat.le_of_ble_eq_true rfl⟩) ⟨fun a U g mk q => by obtain ⟨q0, q1, qP, qK, qD, qZ, qN⟩ := q; exact ⟨q0, q1, qP, va_K.moved (u := U) (U := U.calling g mk a) (Vm.Alike.refl U.vm) qK, qD, sF.moved (u := U) (U := U.calling g mk a) (Vm.Alike.refl U.vm) qZ, nF.same rfl qN⟩, fun U hU hW => ⟨rfl, by rw [hU], by rw [hU]; exact hP, va_K.moved hW.alike hK, hD.weaken (fun _ _ _ _ => trivial), by rw [hU]; exact ((hZ.kept hS.2.1).narrow hf9).moved hW.alike, hN.warm hW⟩⟩ rfl rfl hl.1 rfl (lv_room (Nat.le_of_ble_eq_true rfl)) dX0_chooseByChance_122 ⟨(Nat.zero_le _), (Nat.zero_le _)⟩) hS (fun q _ h => hf9 q h) hf9 (fun u t H locs ht hvm hw hB hz1 hk1 hS => ?_)
            obtain ⟨hP, hK9, hD9⟩ := hB
            rw [ht] at hP
            have hD := hD9.weaken (fun _ q _ h => hf9 q.1 h)
            refine lv_aload_n hx hb dX0_chooseByChance_125 rfl (lv_at hl 4 rfl) ?_
            refine va_get (D := D) (ci := 0) (v := va_re ad (y360.2 a 3)) (C := RX0) (T := TX0) (N := 21) hx hb hts (mus hf_X0) hown hK hP a (wld_o ct ad G y360 hc hk (by decide)) rfl 3 (by decide) (hts (.fieldLink RX0 36 "VideoSuite$Coder" "work" "LVideoSuite$Work;") (mu mw_817)) (fun _ h9 => h9) rfl dX0_chooseByChance_126 ?_
            obtain ⟨b361, ho361, hc361, hk361, hF⟩ := dr_some hF
            refine W_st (st' := [.ref (ad b361)]) (by rw [va_some ho361]) ?_
            refine va_get (D := D) (ci := 9) (v := va_re ad (y360.2 b361 6)) (C := RX9) (T := TX9) (N := 20) hx hb hts (mus hf_X9) hown hK hP b361 (wld_o ct ad G y360 hc361 hk361 (by decide)) rfl 6 (by decide) (hts (.fieldLink RX0 216 "VideoSuite$Work" "info" "[I") (mu mw_445)) (fun _ h9 => h9) rfl dX0_chooseByChance_129 ?_
            refine lv_iload_n hx hb dX0_chooseByChance_132 rfl (lv_at hl 3 rfl) ?_
            refine lv_iconst (v := (5 : Int32)) hx hb dX0_chooseByChance_133 (by decide) ?_
            refine lv_iadd hx hb dX0_chooseByChance_134 ?_
            obtain ⟨x362, ex362, hF⟩ := ltt_some hF
            refine lv_topi (fun zx362 ezx362 => ?_)
            obtain rfl : x362 = zx362 := ex362.trans ezx362.symm
            refine lv_aload_n hx hb dX0_chooseByChance_135 rfl (lv_at hl 4 rfl) ?_
            refine lv_iconst (v := (-1 : Int32)) hx hb dX0_chooseByChance_136 (by decide) ?_
            refine lv_iconst (v := (4 : Int32)) hx hb dX0_chooseByChance_137 (by decide) ?_
            refine lv_iload hx hb dX0_chooseByChance_138 (lv_at hl 0 rfl) ?_
            obtain ⟨y363, hy363, hF⟩ := bnd_some hF
            have hf9 := wA_in hD hA9 hS
            refine va_calli (va_runV (As := [.int (-1 : Int32), .int (4 : Int32), .int y189.2]) (rest := [.int x362, va_re ad (y360.2 b361 6)]) ⟨hx, hb, hml, hown, hts⟩ (kX0_drawMode l D ct ad Z G y360 H.size a ((-1 : Int32)) ((4 : Int32)) y189.2 y363 hc hk hy363) (cwV 3 hts gX0_chooseByChance_X0_drawMode rfl rfl rfl (by decide +kernel) ⟨Nat.le_of_ble_eq_true rfl, Nat.le_of_ble_eq_true rfl⟩) ⟨fun a U g mk q => by obtain ⟨q0, q1, qP, qK, qD, qZ, qN⟩ := q; exact ⟨q0, q1, qP, va_K.moved (u := U) (U := U.calling g mk a) (Vm.Alike.refl U.vm) qK, qD, sF.moved (u := U) (U := U.calling g mk a) (Vm.Alike.refl U.vm) qZ, nF.same rfl qN⟩, va_recv hK hP (ci := 0) (q0 := a) rfl (wld_o ct ad G y360 hc hk (by decide)), fun U hU hW => ⟨rfl, by rw [hU], by rw [hU]; exact hP, va_K.moved hW.alike hK, hD.weaken (fun _ _ _ _ => trivial), by rw [hU]; exact ((hZ.kept hS.2.1).narrow hf9).moved hW.alike, hN.warm hW⟩⟩ rfl rfl hl.1 rfl (lv_room (by simp only [List.map, va_re_cat]; exact Nat.le_of_ble_eq_true rfl)) dX0_chooseByChance_140 ⟨(Nat.zero_le _), (Nat.zero_le _)⟩) hS (fun q _ h => hf9 q h) hf9 (fun r u t H locs ht hvm hw hB hz1 hk1 hS => ?_)
            obtain ⟨hP, hK9, hD9⟩ := hB
            rw [ht] at hP
            try dsimp only at hw
            subst hw
            have hD := hD9.weaken (fun _ q _ h => hf9 q.1 h)
            obtain ⟨b364, ho364, hc364, hk364, hF⟩ := dr_some hF
            refine W_st (st' := [.int y363.2, .int x362, .ref (ad b364)]) (by rw [va_some ho364]) ?_
            obtain ⟨hvc, hF⟩ := chk_some hF
            refine va_iast hx hb hK hP hD hS b364 1 (wld_i ct ad G y363.1 hc364 hk364) rfl hvc dX0_chooseByChance_143 (fun H locs hP hD hS => ?_)
            obtain ⟨M365, eM365, hF⟩ := ltt_some hF
            rw [set_i ct ad G y363.1 hc364 hk364, ← eM365] at hP hD
            refine lv_goto (tgt := 345) hx hb dX0_chooseByChance_144 (by decide) ?_
            obtain rfl := Option.some.inj hF
            exact J279 _ _ _ hP hD hS (lv_sub hl [0, 1, 2, 3, 4, 5] rfl)
    · rw [if_pos c187] at hF
      refine lv_aload_n hx hb dX0_chooseByChance_40 rfl (lv_at hl 3 rfl) ?_
      refine va_get (D := D) (ci := 0) (v := va_re ad (y186.1.2 a 3)) (C := RX0) (T := TX0) (N := 21) hx hb hts (mus hf_X0) hown hK hP a (wld_o ct ad G y186.1 hc hk (by decide)) rfl 3 (by decide) (hts (.fieldLink RX0 36 "VideoSuite$Coder" "work" "LVideoSuite$Work;") (mu mw_817)) (fun _ h9 => h9) rfl dX0_chooseByChance_41 ?_
      obtain ⟨b366, ho366, hc366, hk366, hF⟩ := dr_some hF
      refine W_st (st' := [.ref (ad b366)]) (by rw [va_some ho366]) ?_
      refine va_get (D := D) (ci := 9) (v := va_re ad (y186.1.2 b366 6)) (C := RX9) (T := TX9) (N := 20) hx hb hts (mus hf_X9) hown hK hP b366 (wld_o ct ad G y186.1 hc366 hk366 (by decide)) rfl 6 (by decide) (hts (.fieldLink RX0 216 "VideoSuite$Work" "info" "[I") (mu mw_445)) (fun _ h9 => h9) rfl dX0_chooseByChance_44 ?_
      refine lv_iload_n hx hb dX0_chooseByChance_47 rfl (lv_at hl 2 rfl) ?_
      refine lv_iconst (v := (0 : Int32)) hx hb dX0_chooseByChance_48 (by decide) ?_
      refine lv_iadd hx hb dX0_chooseByChance_49 ?_
      obtain ⟨x367, ex367, hF⟩ := ltt_some hF
      refine lv_topi (fun zx367 ezx367 => ?_)
      obtain rfl : x367 = zx367 := ex367.trans ezx367.symm
      refine lv_iconst (v := (2 : Int32)) hx hb dX0_chooseByChance_50 (by decide) ?_
      obtain ⟨b368, ho368, hc368, hk368, hF⟩ := dr_some hF
      refine W_st (st' := [.int (2 : Int32), .int x367, .ref (ad b368)]) (by rw [va_some ho368]) ?_
      obtain ⟨hvc, hF⟩ := chk_some hF
      refine va_iast hx hb hK hP hD hS b368 1 (wld_i ct ad G y186.1 hc368 hk368) rfl hvc dX0_chooseByChance_51 (fun H locs hP hD hS => ?_)
      obtain ⟨M369, eM369, hF⟩ := ltt_some hF
      rw [set_i ct ad G y186.1 hc368 hk368, ← eM369] at hP hD
      obtain rfl := Option.some.inj hF
      exact W.vret hx hb hr (fun t ht hW => ⟨⟨(), rfl, trivial, ⟨by rw [ht]; exact hP, va_K.moved hW.alike hK, hD⟩⟩, hS.F ht⟩) hS.2.2 dX0_chooseByChance_52
